/-! ===== paths and tellings ===== -/
def ab (ps : List Pg) (i : Nat) : Nat := match ps[i]? with
  | some x => x.2.2.1.toNatClampNeg
  | none => 0
def plc (ps : List Pg) (i : Nat) : Nat := match ps[i]? with
  | some x => x.2.1.toNatClampNeg
  | none => 0
/-- the placements on the way to a page of depth r -/
def pathf (ps : List Pg) : Nat → Nat → Nat → Nat
  | 0, _, _ => 0
  | r + 1, j, k => if k = r then plc ps j else pathf ps r (ab ps j) k
def PW (ps : List Pg) : Prop := ps.length ≤ 301 ∧ ∀ (i s : Nat) (a b : Int32) (d : Nat), ps[i]? = some (s, a, b, d) → d < 24 ∧ ((d = 0 ∧ b = -1) ∨ ∃ r p g s2 a2 b2, d = r + 1 ∧ a = nI p ∧ p < 60 ∧ b = nI g ∧ g < 301 ∧ ps[g]? = some ((s2 : Nat), (a2 : Int32), (b2 : Int32), (r : Nat)))
theorem pgs_PW {ns np key : Nat} {al pa od cd rk : Nat → Nat} {pl : Nat → List Nat} {L2 L3 L4 N : Nat → Int64} (hR : R2 ns np key al pa od cd rk pl L2 L3 L4 N) (hns : 0 < ns) : PW (pgs pl cd) := by
  obtain ⟨h1, h2, -⟩ := pgs_PV hR hns
  refine ⟨h2, fun i s a b d hi => ?_⟩
  have hil : i < (pgs pl cd).length := by
    rcases Nat.lt_or_ge i (pgs pl cd).length with z | z
    · exact z
    · rw [List.getElem?_eq_none z] at hi; cases hi
  obtain ⟨-, x2, x3⟩ := h1 i s a b d hi
  refine ⟨x2, ?_⟩
  rcases x3 with ⟨-, -, y1, y2, -⟩ | ⟨-, p, g, s2, a2, b2, d2, y1, y2, -, y4, y5, y6, y7, -⟩
  · exact Or.inl ⟨y2, y1⟩
  · exact Or.inr ⟨d2, p, g, s2, a2, b2, y7, y1, y2, y4, by omega, y6⟩
theorem plc_eq {ps : List Pg} {i s p : Nat} {b : Int32} {d : Nat} (hp : p < 60) (h : ps[i]? = some (s, nI p, b, d)) : plc ps i = p := by
  unfold plc; rw [h]; exact nI_clamp (by omega)
theorem ab_eq {ps : List Pg} {i s g : Nat} {a : Int32} {d : Nat} (hg : g < 301) (h : ps[i]? = some (s, a, nI g, d)) : ab ps i = g := by
  unfold ab; rw [h]; exact nI_clamp (by omega)
theorem pathf_lt {ps : List Pg} (hW : PW ps) : ∀ (r j s : Nat) (a b : Int32), ps[j]? = some (s, a, b, r) → ∀ k, k < r → pathf ps r j k < 60
  | 0, _, _, _, _, _, k, hk => by omega
  | r + 1, j, s, a, b, h, k, hk => by
    obtain ⟨-, hx⟩ := hW.2 j s a b (r + 1) h
    rcases hx with ⟨h0, -⟩ | ⟨r', p, g, s2, a2, b2, e1, e2, e3, e4, e5, e6⟩
    · omega
    · have : r' = r := by omega
      subst this
      subst e2 e4
      show (if k = r' then plc ps j else pathf ps r' (ab ps j) k) < 60
      by_cases z : k = r'
      · rw [if_pos z, plc_eq e3 h]; exact e3
      · rw [if_neg z, ab_eq e5 h]
        exact pathf_lt hW r' g s2 a2 b2 e6 k (by omega)
theorem sub_neg (r : Nat) : nI r + (-1) = nI r - 1 := (Int32.sub_eq_add_neg _ _).symm
theorem sub_neg' (r : Nat) : (nI (r + 1) - 1) + (-1) = nI r - 1 := by
  have : nI (r + 1) - 1 = nI r := nI_pred r
  rw [this, sub_neg]
theorem sub_lt0 {r : Nat} (h : r < 2 ^ 31) : nI r - 1 < 0 ↔ r = 0 := by
  cases r with
  | zero => exact ⟨fun _ => rfl, fun _ => by decide⟩
  | succ r =>
    have : nI (r + 1) - 1 = nI r := nI_pred r
    rw [this]
    exact ⟨fun w => absurd w (nI_pos (by omega)), fun w => by omega⟩
/-- what a telling must be -/
def Mt (N : Nat → Int64) (vr q wh len : Nat) (path : Nat → Nat) (t : Nat) : Prop := N (2682 + 29 * t) = lN vr ∧ N (2682 + 29 * t + 1) = lN q ∧ N (2682 + 29 * t + 2) = lN wh ∧ N (2682 + 29 * t + 4) = lN len ∧ ∀ k, k < len → N (2682 + 29 * t + 5 + k) = lN (path k)
def Fst (M : Nat → Prop) (n : Nat) : Option Nat → Prop
  | some t => t < n ∧ M t ∧ ∀ t', t' < t → ¬ M t'
  | none => ∀ t, t < n → ¬ M t
theorem Fst_eq {M : Nat → Prop} {n : Nat} : ∀ {o o' : Option Nat}, Fst M n o → Fst M n o' → o = o'
  | some t, some t', h, h' => by
    rcases Nat.lt_trichotomy t t' with z | z | z
    · exact absurd h.2.1 (h'.2.2 t z)
    · rw [z]
    · exact absurd h'.2.1 (h.2.2 t' z)
  | some t, none, h, h' => absurd h.2.1 (h' t h.1)
  | none, some t, h, h' => absurd h'.2.1 (h t h'.1)
  | none, none, _, _ => rfl
def oI (f : Nat → Nat) : Option Nat → Int32
  | some t => nI (f t)
  | none => -1
section TE
variable {c : Nat} {A : AS} {σ : SC} {τ : SM} {ps : List Pg}
theorem bk_above (hB : BK σ ps) (hl : ps.length ≤ 301) {j s : Nat} {a b : Int32} {d : Nat} (h : ps[j]? = some (s, a, b, d)) : m_Book_placementAt σ (nI j) = a ∧ m_Book_pageAbove σ (nI j) = b ∧ m_Book_depthAt σ (nI j) = nI d ∧ j < 301 := by
  have hj : j < ps.length := by
    rcases Nat.lt_or_ge j ps.length with z | z
    · exact z
    · rw [List.getElem?_eq_none z] at h; cases h
  obtain ⟨-, b2, b3, b4, -⟩ := hB.2.1 j s a b d h
  unfold m_Book_placementAt m_Book_pageAbove m_Book_depthAt
  rw [rd_in (j := 1) (show j < 301 by omega), rd_in (j := 2) (show j < 301 by omega), rd_in (j := 3) (show j < 301 by omega)]
  exact ⟨b2, b3, b4, by omega⟩
theorem isAt_l (hB : BK σ ps) (hW : PW ps) {t : Nat} (ht : t < 40) {P : Nat → Nat} (v2 v3 : Int32) : ∀ (r j s : Nat) (a b : Int32) (n : Nat), ps[j]? = some (s, a, b, r) → r < n → (∀ k, k < r → P k < 60 ∧ xL σ 17 (23 * t + k) = lN (P k)) →
    (lp_Variants_isAt_31 n σ (nI t) v2 v3 (nI j) (nI r - 1) = true ↔ ∀ k, k < r → P k = pathf ps r j k) := by
  intro r
  induction r with
  | zero =>
    intro j s a b n h hn hP
    obtain ⟨n, rfl⟩ : ∃ k, n = k + 1 := ⟨n - 1, by omega⟩
    unfold lp_Variants_isAt_31
    rw [if_pos ((sub_lt0 (by omega)).mpr rfl)]
    exact ⟨fun _ k hk => by omega, fun _ => rfl⟩
  | succ r ih =>
    intro j s a b n h hn hP
    obtain ⟨n, rfl⟩ : ∃ k, n = k + 1 := ⟨n - 1, by omega⟩
    obtain ⟨hd, hx⟩ := hW.2 j s a b (r + 1) h
    rcases hx with ⟨h0, -⟩ | ⟨r', p, g, s2, a2, b2, e1, e2, e3, e4, e5, e6⟩
    · omega
    · have : r' = r := by omega
      subst this
      subst e2 e4
      obtain ⟨c1, c2, -, c4⟩ := bk_above hB hW.1 h
      unfold lp_Variants_isAt_31
      have hr : nI (r' + 1) - 1 = nI r' := nI_pred r'
      have ei : nI t * 23 + nI r' = nI (23 * t + r') := by
        show nI t * nI 23 + nI r' = _
        rw [pk_mul, nI_add, Nat.mul_comm]
      obtain ⟨p1, p2⟩ := hP r' (by omega)
      rw [if_neg (fun w => by have := (sub_lt0 (by omega)).mp w; omega), hr, ei, at_in (k := 17) (show 23 * t + r' < 920 by omega), p2, lN_i, c1, c2, sub_neg]
      have e0 : pathf ps (r' + 1) j r' = p := by
        show (if r' = r' then plc ps j else _) = p
        rw [if_pos rfl, plc_eq e3 h]
      have ek : ∀ k, k < r' → pathf ps (r' + 1) j k = pathf ps r' g k := fun k hk => by
        show (if k = r' then plc ps j else pathf ps r' (ab ps j) k) = _
        rw [if_neg (by omega), ab_eq e5 h]
      by_cases z : P r' = p
      · rw [if_pos (by rw [z]), ih g s2 a2 b2 n e6 (by omega) (fun k hk => hP k (by omega))]
        constructor
        · intro w k hk
          by_cases y : k = r'
          · subst y; rw [e0]; exact z
          · rw [ek k (by omega)]; exact w k (by omega)
        · intro w k hk
          rw [← ek k hk]; exact w k (by omega)
      · rw [if_neg (fun w => z ((nI_eq (by omega) (by omega)).mp w))]
        constructor
        · intro w; cases w
        · intro w; exact absurd ((w r' (by omega)).trans e0) z
theorem subj_eq (wh vr q : Nat) : m_Variants_subjectOf (nI wh) (nI vr) (nI q) = nI ((wh * 10 + vr) * 30 + q) := by
  unfold m_Variants_subjectOf
  show ((nI wh * nI 10 + nI vr) * nI 30) + nI q = _
  rw [pk_mul, nI_add, pk_mul, nI_add]
theorem findC_l (h : RR c A (xL σ) (yL τ 0)) (hB : BK σ ps) (hW : PW ps) {vr q wh : Nat} (hvr : vr < 10) (hq : q < 30) (hwh : wh < 2) {j s : Nat} {a b : Int32} {d : Nat} (hj : ps[j]? = some (s, a, b, d)) : ∀ (m i : Nat), i + m = aN A 4 → (∀ t, t < i → ¬ Mt (yL τ 0) vr q wh d (pathf ps d j) t) →
    ∃ o, Fst (Mt (yL τ 0) vr q wh d (pathf ps d j)) (aN A 4) o ∧ lp_Variants_find_2 (m + 1) σ (nI ((wh * 10 + vr) * 30 + q)) (nI j) (nI i) = oI id o := by
  have h4 := h.1.2.2.2.2.1.2.2
  obtain ⟨hd, -⟩ := hW.2 j s a b d hj
  intro m
  induction m with
  | zero =>
    intro i hi hno
    unfold lp_Variants_find_2
    rw [cc4 h, if_pos (nI_le (by omega) (by omega))]
    exact ⟨none, fun t ht => hno t (by omega), rfl⟩
  | succ m ih =>
    intro i hi hno
    unfold lp_Variants_find_2
    obtain ⟨vr', qq', wh', len', x1, x2, x3, x4, x5, x6, x7, x8, x9, x10, x11, x12⟩ := h.2.2.2.2.2.2.1 i (by omega)
    rw [cc4 h, if_neg (nI_ge (by omega) (by omega)), at_in (k := 14) (show i < 40 by omega), x9, lN_i, nI_1]
    have next : ¬ Mt (yL τ 0) vr q wh d (pathf ps d j) i → ∃ o, Fst (Mt (yL τ 0) vr q wh d (pathf ps d j)) (aN A 4) o ∧ lp_Variants_find_2 (m + 1) σ (nI ((wh * 10 + vr) * 30 + q)) (nI j) (nI (i + 1)) = oI id o := fun hn =>
      ih (i + 1) (by omega) (fun t ht => by
        by_cases e : t = i
        · rw [e]; exact hn
        · exact hno t (by omega))
    by_cases cs : (wh' * 10 + vr') * 30 + qq' = (wh * 10 + vr) * 30 + q
    · rw [if_pos (by rw [cs])]
      have g1 : qq' = q := by omega
      have g2 : vr' = vr := by omega
      have g3 : wh' = wh := by omega
      subst g1 g2 g3
      unfold m_Variants_isAt
      obtain ⟨-, -, c3, -⟩ := bk_above hB hW.1 hj
      rw [at_in (k := 16) (show i < 40 by omega), x11, lN_i, c3]
      by_cases cl : len' = d
      · subst cl
        rw [if_pos rfl]
        have hex : ∃ P : Nat → Nat, ∀ k, k < len' → P k < 60 ∧ xL σ 17 (23 * i + k) = lN (P k) ∧ yL τ 0 (2682 + 29 * i + 5 + k) = lN (P k) :=
          ⟨fun k => (yL τ 0 (2682 + 29 * i + 5 + k)).toInt.toNat, fun k hk => by
            obtain ⟨p, w1, w2, w3⟩ := x12 k hk
            have : (yL τ 0 (2682 + 29 * i + 5 + k)).toInt.toNat = p := by rw [w3, lN_toInt (by omega)]; rfl
            exact ⟨by show (yL τ 0 (2682 + 29 * i + 5 + k)).toInt.toNat < 60; omega, by show _ = lN (yL τ 0 (2682 + 29 * i + 5 + k)).toInt.toNat; rw [this]; exact w2, by show _ = lN (yL τ 0 (2682 + 29 * i + 5 + k)).toInt.toNat; rw [this]; exact w3⟩⟩
        obtain ⟨P, hP⟩ := hex
        have hfu : len' < (nI len' - 1).toNatClampNeg + 2 := by
          cases len' with
          | zero => omega
          | succ l =>
            have : nI (l + 1) - 1 = nI l := nI_pred l
            rw [this, nI_clamp (by omega)]; omega
        have hi' := isAt_l hB hW (t := i) (by omega) (P := P) (nI j) (nI len') len' j s a b _ hj hfu (fun k hk => ⟨(hP k hk).1, (hP k hk).2.1⟩)
        have hmt : Mt (yL τ 0) vr' qq' wh' len' (pathf ps len' j) i ↔ ∀ k, k < len' → P k = pathf ps len' j k := by
          constructor
          · intro w k hk
            have h5 := w.2.2.2.2 k hk
            have h6 := pathf_lt hW len' j s a b hj k hk
            have h7 := hP k hk
            rw [h7.2.2] at h5
            exact (lN_eq (by omega) (by omega)).mp h5
          · intro w
            exact ⟨x5, x6, x7, x8, fun k hk => by rw [(hP k hk).2.2, w k hk]⟩
        generalize lp_Variants_isAt_31 ((nI len' - 1).toNatClampNeg + 2) σ (nI i) (nI j) (nI len') (nI j) (nI len' - 1) = B at hi' ⊢
        cases B with
        | true =>
          rw [if_neg bt]
          exact ⟨some i, ⟨by omega, hmt.mpr (hi'.mp rfl), hno⟩, rfl⟩
        | false =>
          rw [if_pos bf]
          exact next (fun w => by have := hi'.mpr (hmt.mp w); cases this)
      · rw [if_neg (fun w => cl ((nI_eq (by omega) (by omega)).mp w)), if_pos bf]
        refine next (fun w => cl ?_)
        have := w.2.2.2.1
        rw [x8] at this
        exact (lN_eq (by omega) (by omega)).mp this
    · rw [if_neg (fun w => cs ((nI_eq (by omega) (by omega)).mp w))]
      refine next (fun w => cs ?_)
      have w1 := w.1; have w2 := w.2.1; have w3 := w.2.2.1
      rw [x5] at w1; rw [x6] at w2; rw [x7] at w3
      have e1 := (lN_eq (by omega) (by omega)).mp w1
      have e2 := (lN_eq (by omega) (by omega)).mp w2
      have e3 := (lN_eq (by omega) (by omega)).mp w3
      rw [e1, e2, e3]
theorem findC_eq (h : RR c A (xL σ) (yL τ 0)) (hB : BK σ ps) (hW : PW ps) {vr q wh : Nat} (hvr : vr < 10) (hq : q < 30) (hwh : wh < 2) {j s : Nat} {a b : Int32} {d : Nat} (hj : ps[j]? = some (s, a, b, d)) :
    ∃ o, Fst (Mt (yL τ 0) vr q wh d (pathf ps d j)) (aN A 4) o ∧ m_Variants_find σ (nI ((wh * 10 + vr) * 30 + q)) (nI j) = oI id o := by
  have h4 := h.1.2.2.2.2.1.2.2
  unfold m_Variants_find
  rw [cc4 h, nI_clamp (by omega)]
  have := findC_l h hB hW hvr hq hwh hj (aN A 4) 0 (by omega) (fun t ht => by omega)
  rw [nI_0] at this; exact this
/-! the reference's find -/
theorem t29 {t k : Nat} (ht : t < 40) (hk : k < 29) : ((2682 : Int32) + (29 * nI t)) + nI k = nI (2682 + 29 * t + k) := by
  show (nI 2682 + (nI 29 * nI t)) + nI k = _
  rw [pk_mul, nI_add, nI_add]
theorem t29' {t : Nat} : ((2682 : Int32) + (29 * nI t)) = nI (2682 + 29 * t) := by
  show (nI 2682 + (nI 29 * nI t)) = _
  rw [pk_mul, nI_add]
theorem find93 {t : Nat} (ht : t < 40) (K : SM → Int32 → Int32 → Int32 → Int32 → Int32 → Int32) (KP : SM → Int32 → Int32 → Int32 → Int32 → Int32 → Prop) (v1 v2 v3 : Int32) {len : Nat} (hl : len < 24) {path : Nat → Nat} (hp : ∀ k, k < len → path k < 60 ∧ yI τ 4 k = nI (path k)) : ∀ (m k : Nat), k + m = len →
    (((∀ i, k ≤ i → i < len → yL τ 0 (2682 + 29 * t + 5 + i) = lN (path i)) ∧ lp_Mo_find_93 K (m + 1) τ v1 v2 v3 (nI len) (nI t) (nI (2682 + 29 * t)) 1 (nI k) = nI (2682 + 29 * t) ∧ kl_Mo_find_93 KP (m + 1) τ v1 v2 v3 (nI len) (nI t) (nI (2682 + 29 * t)) 1 (nI k)) ∨
     ((¬ ∀ i, k ≤ i → i < len → yL τ 0 (2682 + 29 * t + 5 + i) = lN (path i)) ∧ lp_Mo_find_93 K (m + 1) τ v1 v2 v3 (nI len) (nI t) (nI (2682 + 29 * t)) 1 (nI k) = K τ v1 v2 v3 (nI len) (nI (t + 1)) ∧ (KP τ v1 v2 v3 (nI len) (nI (t + 1)) → kl_Mo_find_93 KP (m + 1) τ v1 v2 v3 (nI len) (nI t) (nI (2682 + 29 * t)) 1 (nI k)))) := by
  have n10 : ¬ (1 : Int32) = 0 := by decide
  have z0 : ∀ (m k : Nat), lp_Mo_find_93 K (m + 1) τ v1 v2 v3 (nI len) (nI t) (nI (2682 + 29 * t)) 0 (nI k) = K τ v1 v2 v3 (nI len) (nI (t + 1)) ∧ (KP τ v1 v2 v3 (nI len) (nI (t + 1)) → kl_Mo_find_93 KP (m + 1) τ v1 v2 v3 (nI len) (nI t) (nI (2682 + 29 * t)) 0 (nI k)) := fun m k => by
    unfold lp_Mo_find_93 kl_Mo_find_93
    have e0 : (0 : Int32) = 0 := rfl
    rw [if_pos e0, if_pos e0, if_pos e0, if_pos e0, nI_1]
    by_cases z : nI len ≤ nI k
    · rw [if_pos z, if_pos z]; exact ⟨rfl, fun w => w⟩
    · rw [if_neg z, if_neg z]; exact ⟨rfl, fun w => w⟩
  intro m
  induction m with
  | zero =>
    intro k hk
    left
    unfold lp_Mo_find_93 kl_Mo_find_93
    have c1 : nI len ≤ nI k := nI_le (by omega) (by omega)
    rw [if_pos c1, if_pos c1, if_neg n10, if_neg n10]
    exact ⟨fun i w1 w2 => by omega, rfl, trivial⟩
  | succ m ih =>
    intro k hk
    unfold lp_Mo_find_93 kl_Mo_find_93
    have c1 : ¬ nI len ≤ nI k := nI_ge (by omega) (by omega)
    have e1 : (nI (2682 + 29 * t) + 5) + nI k = nI (2682 + 29 * t + 5 + k) := by
      show (nI (2682 + 29 * t) + nI 5) + nI k = _
      rw [nI_add, nI_add]
    obtain ⟨p1, p2⟩ := hp k (by omega)
    have v1' : vp_in (nI (2682 + 29 * t + 5 + k)) (lnML 0) := inL _ (by omega)
    have v2' : vp_in (nI k) 24 := vp_in_nI (by omega) (by decide)
    rw [if_neg c1, if_neg c1, if_neg n10, if_neg n10, e1, nI_clamp (by omega), nI_clamp (by omega), p2, nI_l (by omega), nI_1 k]
    by_cases z : yL τ 0 (2682 + 29 * t + 5 + k) = lN (path k)
    · have c2 := cmp0.mpr z
      rw [if_pos c2, if_pos c2]
      rcases ih (k + 1) (by omega) with ⟨i1, i2, i3⟩ | ⟨i1, i2, i3⟩
      · left
        refine ⟨fun i w1 w2 => ?_, i2, v1', v2', i3⟩
        by_cases e : i = k
        · rw [e]; exact z
        · exact i1 i (by omega) w2
      · right
        exact ⟨fun w => i1 fun i w1 w2 => w i (by omega) w2, i2, fun y => ⟨v1', v2', i3 y⟩⟩
    · have c2 : ¬ lg_cmp (yL τ 0 (2682 + 29 * t + 5 + k)) (lN (path k)) = 0 := fun w => z (cmp0.mp w)
      rw [if_neg c2, if_neg c2]
      obtain ⟨y1, y2⟩ := z0 m (k + 1)
      right
      exact ⟨fun w => z (w k (Nat.le_refl _) (by omega)), y1, fun y => ⟨v1', v2', y2 y⟩⟩
theorem findM_l (h : RR c A (xL σ) (yL τ 0)) {vr q wh len : Nat} (hvr : vr < 10) (hq : q < 30) (hwh : wh < 2) (hl : len < 24) {path : Nat → Nat} (hp : ∀ k, k < len → path k < 60 ∧ yI τ 4 k = nI (path k)) : ∀ (m i : Nat), i + m = aN A 4 → (∀ t, t < i → ¬ Mt (yL τ 0) vr q wh len path t) →
    ∃ o, Fst (Mt (yL τ 0) vr q wh len path) (aN A 4) o ∧ lp_Mo_find_3 (m + 1) τ (nI vr) (nI q) (nI wh) (nI len) (nI i) = oI (fun t => 2682 + 29 * t) o ∧ kl_Mo_find_3 (m + 1) τ (nI vr) (nI q) (nI wh) (nI len) (nI i) := by
  have h4 := h.1.2.2.2.2.1.2.2
  intro m
  induction m with
  | zero =>
    intro i hi hno
    unfold lp_Mo_find_3 kl_Mo_find_3
    have c1 : nI (aN A 4) ≤ nI i := nI_le (by omega) (by omega)
    rw [ct4 h, if_pos c1, if_pos c1]
    exact ⟨none, fun t ht => hno t (by omega), rfl, count_k (k := 4) (by decide), trivial⟩
  | succ m ih =>
    intro i hi hno
    unfold lp_Mo_find_3 kl_Mo_find_3
    have c1 : ¬ nI (aN A 4) ≤ nI i := nI_ge (by omega) (by omega)
    obtain ⟨vr', qq', wh', len', x1, x2, x3, x4, x5, x6, x7, x8, -⟩ := h.2.2.2.2.2.2.1 i (by omega)
    have a1 : ((2682 : Int32) + (29 * nI i)) + 1 = nI (2682 + 29 * i + 1) := t29 (k := 1) (by omega) (by decide)
    have a2 : ((2682 : Int32) + (29 * nI i)) + 2 = nI (2682 + 29 * i + 2) := t29 (k := 2) (by omega) (by decide)
    have a4 : ((2682 : Int32) + (29 * nI i)) + 4 = nI (2682 + 29 * i + 4) := t29 (k := 4) (by omega) (by decide)
    have k0 := count_k (τ := τ) (k := 4) (by decide)
    have v0 : vp_in (nI (2682 + 29 * i)) (lnML 0) := inL _ (by omega)
    have v1 : vp_in (nI (2682 + 29 * i + 1)) (lnML 0) := inL _ (by omega)
    have v2 : vp_in (nI (2682 + 29 * i + 2)) (lnML 0) := inL _ (by omega)
    have v4 : vp_in (nI (2682 + 29 * i + 4)) (lnML 0) := inL _ (by omega)
    rw [ct4 h, if_neg c1, if_neg c1, a1, a2, a4, t29', nI_clamp (show 2682 + 29 * i < 2 ^ 31 by omega), nI_clamp (show 2682 + 29 * i + 1 < 2 ^ 31 by omega), nI_clamp (show 2682 + 29 * i + 2 < 2 ^ 31 by omega), nI_clamp (show 2682 + 29 * i + 4 < 2 ^ 31 by omega), x5, x6, x7, x8, nI_l (show vr < 2 ^ 31 by omega), nI_l (show q < 2 ^ 31 by omega), nI_l (show wh < 2 ^ 31 by omega), nI_l (show len < 2 ^ 31 by omega), nI_clamp (show len < 2 ^ 31 by omega)]
    have nx : ¬ Mt (yL τ 0) vr q wh len path i → ∃ o, Fst (Mt (yL τ 0) vr q wh len path) (aN A 4) o ∧ lp_Mo_find_3 (m + 1) τ (nI vr) (nI q) (nI wh) (nI len) (nI (i + 1)) = oI (fun t => 2682 + 29 * t) o ∧ kl_Mo_find_3 (m + 1) τ (nI vr) (nI q) (nI wh) (nI len) (nI (i + 1)) := fun hn =>
      ih (i + 1) (by omega) (fun t ht => by
        by_cases e : t = i
        · rw [e]; exact hn
        · exact hno t (by omega))
    have zero : lp_Mo_find_93 (lp_Mo_find_3 (m + 1)) (len + 1) τ (nI vr) (nI q) (nI wh) (nI len) (nI i) (nI (2682 + 29 * i)) 0 0 = lp_Mo_find_3 (m + 1) τ (nI vr) (nI q) (nI wh) (nI len) (nI (i + 1)) ∧ (kl_Mo_find_3 (m + 1) τ (nI vr) (nI q) (nI wh) (nI len) (nI (i + 1)) → kl_Mo_find_93 (kl_Mo_find_3 (m + 1)) (len + 1) τ (nI vr) (nI q) (nI wh) (nI len) (nI i) (nI (2682 + 29 * i)) 0 0) := by
      unfold lp_Mo_find_93 kl_Mo_find_93
      have e0 : (0 : Int32) = 0 := rfl
      rw [if_pos e0, if_pos e0, if_pos e0, if_pos e0, nI_1]
      by_cases z : nI len ≤ 0
      · rw [if_pos z, if_pos z]; exact ⟨rfl, fun w => w⟩
      · rw [if_neg z, if_neg z]; exact ⟨rfl, fun w => w⟩
    obtain ⟨zz1, zz2⟩ := zero
    by_cases b1 : vr' = vr
    · have d1 : lg_cmp (lN vr') (lN vr) = 0 := cmp0.mpr (by rw [b1])
      rw [if_pos d1, if_pos d1]
      by_cases b2 : qq' = q
      · have d2 : lg_cmp (lN qq') (lN q) = 0 := cmp0.mpr (by rw [b2])
        rw [if_pos d2, if_pos d2]
        by_cases b3 : wh' = wh
        · have d3 : lg_cmp (lN wh') (lN wh) = 0 := cmp0.mpr (by rw [b3])
          rw [if_pos d3, if_pos d3]
          by_cases b4 : len' = len
          · have d4 : lg_cmp (lN len') (lN len) = 0 := cmp0.mpr (by rw [b4])
            rw [if_pos d4, if_pos d4]
            have h93 := find93 (τ := τ) (t := i) (by omega) (lp_Mo_find_3 (m + 1)) (kl_Mo_find_3 (m + 1)) (nI vr) (nI q) (nI wh) hl hp len 0 (by omega)
            rw [nI_0] at h93
            rcases h93 with ⟨i1, i2, i3⟩ | ⟨i1, i2, i3⟩
            · exact ⟨some i, ⟨by omega, ⟨by rw [x5, b1], by rw [x6, b2], by rw [x7, b3], by rw [x8, b4], fun k hk => i1 k (Nat.zero_le _) hk⟩, hno⟩, i2, k0, v0, v1, v2, v4, i3⟩
            · obtain ⟨o, o1, o2, o3⟩ := nx (fun w => i1 fun k _ hk => w.2.2.2.2 k hk)
              exact ⟨o, o1, i2.trans o2, k0, v0, v1, v2, v4, i3 o3⟩
          · have d4 : ¬ lg_cmp (lN len') (lN len) = 0 := fun w => b4 ((lN_eq (by omega) (by omega)).mp (cmp0.mp w))
            rw [if_neg d4, if_neg d4]
            obtain ⟨o, o1, o2, o3⟩ := nx (fun w => b4 ((lN_eq (by omega) (by omega)).mp (x8.symm.trans w.2.2.2.1)))
            exact ⟨o, o1, zz1.trans o2, k0, v0, v1, v2, v4, zz2 o3⟩
        · have d3 : ¬ lg_cmp (lN wh') (lN wh) = 0 := fun w => b3 ((lN_eq (by omega) (by omega)).mp (cmp0.mp w))
          rw [if_neg d3, if_neg d3]
          obtain ⟨o, o1, o2, o3⟩ := nx (fun w => b3 ((lN_eq (by omega) (by omega)).mp (x7.symm.trans w.2.2.1)))
          exact ⟨o, o1, zz1.trans o2, k0, v0, v1, v2, zz2 o3⟩
      · have d2 : ¬ lg_cmp (lN qq') (lN q) = 0 := fun w => b2 ((lN_eq (by omega) (by omega)).mp (cmp0.mp w))
        rw [if_neg d2, if_neg d2]
        obtain ⟨o, o1, o2, o3⟩ := nx (fun w => b2 ((lN_eq (by omega) (by omega)).mp (x6.symm.trans w.2.1)))
        exact ⟨o, o1, zz1.trans o2, k0, v0, v1, zz2 o3⟩
    · have d1 : ¬ lg_cmp (lN vr') (lN vr) = 0 := fun w => b1 ((lN_eq (by omega) (by omega)).mp (cmp0.mp w))
      rw [if_neg d1, if_neg d1]
      obtain ⟨o, o1, o2, o3⟩ := nx (fun w => b1 ((lN_eq (by omega) (by omega)).mp (x5.symm.trans w.1)))
      exact ⟨o, o1, zz1.trans o2, k0, v0, zz2 o3⟩
theorem findM_eq (h : RR c A (xL σ) (yL τ 0)) {vr q wh len : Nat} (hvr : vr < 10) (hq : q < 30) (hwh : wh < 2) (hl : len < 24) {path : Nat → Nat} (hp : ∀ k, k < len → path k < 60 ∧ yI τ 4 k = nI (path k)) :
    ∃ o, Fst (Mt (yL τ 0) vr q wh len path) (aN A 4) o ∧ m_Mo_find τ (nI vr) (nI q) (nI wh) (nI len) = oI (fun t => 2682 + 29 * t) o ∧ k_Mo_find τ (nI vr) (nI q) (nI wh) (nI len) := by
  have h4 := h.1.2.2.2.2.1.2.2
  unfold m_Mo_find k_Mo_find
  rw [ct4 h, nI_clamp (by omega)]
  have := findM_l h hvr hq hwh hl hp (aN A 4) 0 (by omega) (fun t ht => by omega)
  rw [nI_0] at this; exact this
/-! the reference's path -/
theorem path_l (hW : PW ps) (v1 v2 : Int32) : ∀ (r j s : Nat) (a b : Int32) (n : Nat) (τ : SM), PR τ ps → ps[j]? = some (s, a, b, r) → r < n →
    ∃ τ', lp_Mo_pathOf_14 n τ v1 v2 (nI j) (nI r - 1) = (v2, τ') ∧ kl_Mo_pathOf_14 n τ v1 v2 (nI j) (nI r - 1) ∧ (∀ k, k < r → yI τ' 4 k = nI (pathf ps r j k)) ∧ (∀ k, r ≤ k → yI τ' 4 k = yI τ 4 k) ∧ (∀ i, i ≠ 4 → yI τ' i = yI τ i) ∧ yL τ' = yL τ ∧ yn τ' = yn τ ∧ yf τ' = yf τ := by
  intro r
  induction r with
  | zero =>
    intro j s a b n τ hP h hn
    obtain ⟨n, rfl⟩ : ∃ k, n = k + 1 := ⟨n - 1, by omega⟩
    unfold lp_Mo_pathOf_14 kl_Mo_pathOf_14
    have c1 := (sub_lt0 (r := 0) (by omega)).mpr rfl
    rw [if_pos c1, if_pos c1]
    exact ⟨τ, rfl, trivial, fun k hk => by omega, fun _ _ => rfl, fun _ _ => rfl, rfl, rfl, rfl⟩
  | succ r ih =>
    intro j s a b n τ hP h hn
    obtain ⟨n, rfl⟩ : ∃ k, n = k + 1 := ⟨n - 1, by omega⟩
    obtain ⟨hd, hx⟩ := hW.2 j s a b (r + 1) h
    rcases hx with ⟨h0, -⟩ | ⟨r', p, g, s2, a2, b2, e1, e2, e3, e4, e5, e6⟩
    · omega
    · have : r' = r := by omega
      subst this
      subst e2 e4
      have hj : j < ps.length := by
        rcases Nat.lt_or_ge j ps.length with z | z
        · exact z
        · rw [List.getElem?_eq_none z] at h; cases h
      have hl := hW.1
      obtain ⟨-, q1, q2, -⟩ := hP.2 j s _ _ _ h
      unfold lp_Mo_pathOf_14 kl_Mo_pathOf_14
      have c1 : ¬ nI (r' + 1) - 1 < 0 := fun w => by have := (sub_lt0 (by omega)).mp w; omega
      have hr : nI (r' + 1) - 1 = nI r' := nI_pred r'
      rw [if_neg c1, if_neg c1, hr, nI_clamp (show r' < 2 ^ 31 by omega), nI_clamp (show j < 2 ^ 31 by omega), q1, sub_neg]
      have eg : yI (wI τ 4 r' (nI p)) 2 j = nI g := by rw [yI_wI, if_neg (by omega)]; exact q2
      rw [eg]
      have hP' : PR (wI τ 4 r' (nI p)) ps := ⟨hP.1, fun i s' a' b' d' hi => by
        have := hP.2 i s' a' b' d' hi
        simp only [yI_wI]
        simpa using this⟩
      obtain ⟨τ', i1, i2, i3, i4, i5, i6, i7, i8⟩ := ih g s2 a2 b2 n (wI τ 4 r' (nI p)) hP' e6 (by omega)
      have vj : vp_in (nI j) 301 := vp_in_nI (by omega) (by decide)
      refine ⟨τ', i1, ⟨vj, vp_in_nI (show r' < 24 by omega) (by decide), vj, i2⟩, fun k hk => ?_, fun k hk => ?_, fun i hi => ?_, i6, i7, i8⟩
      · show _ = nI (if k = r' then plc ps j else pathf ps r' (ab ps j) k)
        by_cases z : k = r'
        · subst z
          rw [if_pos rfl, plc_eq e3 h, i4 k (Nat.le_refl _), yI_wI, if_pos ⟨rfl, rfl⟩]
        · rw [if_neg z, ab_eq e5 h]; exact i3 k (by omega)
      · rw [i4 k (by omega), yI_wI, if_neg (by omega)]
      · rw [i5 i hi]; funext k; rw [yI_wI, if_neg (fun z => hi z.1)]
theorem pathOf_eq (hW : PW ps) (hP : PR τ ps) {j s : Nat} {a b : Int32} {d : Nat} (h : ps[j]? = some (s, a, b, d)) :
    ∃ τ', m_Mo_pathOf τ (nI j) = (nI d, τ') ∧ k_Mo_pathOf τ (nI j) ∧ (∀ k, k < d → yI τ' 4 k = nI (pathf ps d j k)) ∧ PR τ' ps ∧ yL τ' = yL τ ∧ yn τ' = yn τ ∧ yf τ' = yf τ := by
  have hj : j < ps.length := by
    rcases Nat.lt_or_ge j ps.length with z | z
    · exact z
    · rw [List.getElem?_eq_none z] at h; cases h
  have hl := hW.1
  obtain ⟨hd, -⟩ := hW.2 j s a b d h
  obtain ⟨-, -, -, q3⟩ := hP.2 j s a b d h
  unfold m_Mo_pathOf k_Mo_pathOf
  rw [nI_clamp (show j < 2 ^ 31 by omega), q3]
  have hfu : d < (nI d - 1).toNatClampNeg + 2 := by
    cases d with
    | zero => omega
    | succ l =>
      have : nI (l + 1) - 1 = nI l := nI_pred l
      rw [this, nI_clamp (by omega)]; omega
  obtain ⟨τ', i1, i2, i3, i4, i5, i6, i7, i8⟩ := path_l hW (nI j) (nI d) d j s a b _ τ hP h hfu
  refine ⟨τ', i1, ⟨vp_in_nI (show j < 301 by omega) (by decide), i2⟩, i3, ⟨by rw [i7]; exact hP.1, fun i s' a' b' d' hi => ?_⟩, i6, i7, i8⟩
  rw [i5 0 (by decide), i5 1 (by decide), i5 2 (by decide), i5 3 (by decide)]
  exact hP.2 i s' a' b' d' hi
end TE
