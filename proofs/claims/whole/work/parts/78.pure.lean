theorem Mt_cg {N : Nat → Int64} {vr q wh len : Nat} {p p' : Nat → Nat} (h : ∀ k, k < len → p k = p' k) : Mt N vr q wh len p = Mt N vr q wh len p' := by
  funext t
  apply propext
  unfold Mt
  constructor
  · rintro ⟨a, b, c, d, e⟩; exact ⟨a, b, c, d, fun k hk => by rw [← h k hk]; exact e k hk⟩
  · rintro ⟨a, b, c, d, e⟩; exact ⟨a, b, c, d, fun k hk => by rw [h k hk]; exact e k hk⟩
/-- the telling that holds, of one variant: on the longest way up -/
def NV (N : Nat → Int64) (vr q wh d : Nat) (path : Nat → Nat) (nt : Nat) : Option Nat → Prop
  | some t => ∃ r, r ≤ d ∧ Fst (Mt N vr q wh r path) nt (some t) ∧ ∀ r', r < r' → r' ≤ d → Fst (Mt N vr q wh r' path) nt none
  | none => ∀ r, r ≤ d → Fst (Mt N vr q wh r path) nt none
theorem NV_eq {N : Nat → Int64} {vr q wh d : Nat} {path : Nat → Nat} {nt : Nat} : ∀ {o o' : Option Nat}, NV N vr q wh d path nt o → NV N vr q wh d path nt o' → o = o'
  | some t, some t', ⟨r, h1, h2, h3⟩, ⟨r', g1, g2, g3⟩ => by
    rcases Nat.lt_trichotomy r r' with z | z | z
    · have := Fst_eq (h3 r' z g1) g2; cases this
    · subst z; exact Fst_eq h2 g2
    · have := Fst_eq (g3 r z h1) h2; cases this
  | some t, none, ⟨r, h1, h2, _⟩, h' => by have := Fst_eq h2 (h' r h1); cases this
  | none, some t, h, ⟨r, g1, g2, _⟩ => by have := Fst_eq g2 (h r g1); cases this
  | none, none, _, _ => rfl
section AS2
variable {c : Nat} {A : AS} {σ : SC} {τ : SM} {ps : List Pg}
theorem near35 (h : RR c A (xL σ) (yL τ 0)) (hB : BK σ ps) (hW : PW ps) {vr q wh : Nat} (hvr : vr < 10) (hq : q < 30) (hwh : wh < 2) (K : SC → Int32 → Int32 → Int32 → Int32 → Int32 → Int32 → Int32) (v1 v2 v3 v4 v6 : Int32) {d : Nat} (path : Nat → Nat) : ∀ (r j s : Nat) (a b : Int32) (n u : Nat), ps[j]? = some (s, a, b, r) → r ≤ d → (∀ k, k < r → pathf ps r j k = path k) → (∀ r', r < r' → r' ≤ d → Fst (Mt (yL τ 0) vr q wh r' path) (aN A 4) none) → r + 1 < n → u + r < 24 →
    ∃ o, NV (yL τ 0) vr q wh d path (aN A 4) o ∧ lp_Variants_nearest_35 K n σ v1 v2 v3 v4 (nI vr) v6 (nI ((wh * 10 + vr) * 30 + q)) (nI j) (nI u) = (match o with | some t => nI t | none => K σ v1 v2 v3 v4 (m_Row_at σ 13 (nI vr)) (v6 + 1)) := by
  have h40 := h.1.2.2.2.2.1.2.2
  intro r
  induction r with
  | zero =>
    intro j s a b n u hj hr hp hno hn hu
    obtain ⟨n, rfl⟩ : ∃ k, n = k + 2 := ⟨n - 2, by omega⟩
    have hjl : j < 301 := (bk_above hB hW.1 hj).2.2.2
    obtain ⟨o, o1, o2⟩ := findC_eq h hB hW hvr hq hwh hj
    rw [Mt_cg hp] at o1
    unfold lp_Variants_nearest_35
    rw [if_neg (show ¬ (24 : Int32) ≤ nI u from nI_ge (b := 24) (by omega) (by decide)), if_neg (nI_m1 (by omega)), o2]
    cases o with
    | some t =>
      have ht : t < aN A 4 := o1.1
      rw [if_neg (show ¬ oI id (some t) = -1 from nI_m1 (show t < 2 ^ 31 by omega))]
      exact ⟨some t, ⟨0, hr, o1, hno⟩, rfl⟩
    | none =>
      rw [if_pos (by rfl)]
      have hb : m_Book_pageAbove σ (nI j) = -1 := by
        rw [(bk_above hB hW.1 hj).2.1]
        rcases (hW.2 j s a b 0 hj).2 with ⟨-, e⟩ | ⟨r, p, g, s2, a2, b2, e, -⟩
        · exact e
        · omega
      refine ⟨none, fun r' hr' => ?_, ?_⟩
      · cases r' with
        | zero => exact o1
        | succ r' => exact hno (r' + 1) (by omega) hr'
      · rw [hb, nI_1]
        unfold lp_Variants_nearest_35
        by_cases z : (24 : Int32) ≤ nI (u + 1)
        · rw [if_pos z]
        · rw [if_neg z, if_pos rfl]
  | succ r ih =>
    intro j s a b n u hj hr hp hno hn hu
    obtain ⟨n, rfl⟩ : ∃ k, n = k + 1 := ⟨n - 1, by omega⟩
    have hjl : j < 301 := (bk_above hB hW.1 hj).2.2.2
    obtain ⟨o, o1, o2⟩ := findC_eq h hB hW hvr hq hwh hj
    rw [Mt_cg hp] at o1
    unfold lp_Variants_nearest_35
    rw [if_neg (show ¬ (24 : Int32) ≤ nI u from nI_ge (b := 24) (by omega) (by decide)), if_neg (nI_m1 (by omega)), o2]
    cases o with
    | some t =>
      have ht : t < aN A 4 := o1.1
      rw [if_neg (show ¬ oI id (some t) = -1 from nI_m1 (show t < 2 ^ 31 by omega))]
      exact ⟨some t, ⟨r + 1, hr, o1, hno⟩, rfl⟩
    | none =>
      rw [if_pos (by rfl)]
      rcases (hW.2 j s a b (r + 1) hj).2 with ⟨h0, -⟩ | ⟨r', p, g, s2, a2, b2, e1, e2, e3, e4, e5, e6⟩
      · omega
      · have : r' = r := by omega
        subst this
        subst e2 e4
        rw [(bk_above hB hW.1 hj).2.1, nI_1]
        refine ih g s2 a2 b2 n (u + 1) e6 (by omega) (fun k hk => ?_) (fun r'' w1 w2 => ?_) (by omega) (by omega)
        · have := hp k (by omega)
          rw [← this]
          show _ = (if k = r' then plc ps j else pathf ps r' (ab ps j) k)
          rw [if_neg (by omega), ab_eq e5 hj]
        · by_cases z : r'' = r' + 1
          · rw [z]; exact o1
          · exact hno r'' (by omega) w2
theorem ask67 (h : RR c A (xL σ) (yL τ 0)) {vr q wh d : Nat} (hvr : vr < 10) (hq : q < 30) (hwh : wh < 2) (hd : d < 24) {path : Nat → Nat} (hp : ∀ k, k < d → path k < 60 ∧ yI τ 4 k = nI (path k)) (K : SM → Int32 → Int32 → Int32 → Int32 → Int32 → Int64 × SM) (KP : SM → Int32 → Int32 → Int32 → Int32 → Int32 → Prop) (v1 v2 v6 : Int32) : ∀ (r n : Nat), r ≤ d + 1 → (∀ r', r ≤ r' → r' ≤ d → Fst (Mt (yL τ 0) vr q wh r' path) (aN A 4) none) → r < n →
    ∃ o, NV (yL τ 0) vr q wh d path (aN A 4) o ∧ lp_Mo_ask_67 K n τ v1 v2 (nI q) (nI wh) (nI vr) v6 (nI r - 1) = (match o with | some t => (yL τ 0 (2682 + 29 * t + 3), τ) | none => K τ v1 v2 (nI q) (nI wh) (yL τ 0 (2672 + vr)).toInt32) ∧
      ((∀ t, o = some t → True) → (o = none → KP τ v1 v2 (nI q) (nI wh) (yL τ 0 (2672 + vr)).toInt32) → kl_Mo_ask_67 KP n τ v1 v2 (nI q) (nI wh) (nI vr) v6 (nI r - 1)) := by
  have h40 := h.1.2.2.2.2.1.2.2
  intro r
  induction r with
  | zero =>
    intro n hr hno hn
    obtain ⟨n, rfl⟩ : ∃ k, n = k + 1 := ⟨n - 1, by omega⟩
    unfold lp_Mo_ask_67 kl_Mo_ask_67
    have c1 := (sub_lt0 (r := 0) (by omega)).mpr rfl
    have e1 : ((2672 : Int32) + nI vr).toNatClampNeg = 2672 + vr := clA 2672 (by omega)
    rw [if_pos c1, if_pos c1, e1]
    exact ⟨none, fun r hr => hno r (Nat.zero_le _) hr, rfl, fun _ w => ⟨inA 2672 (by omega), w rfl⟩⟩
  | succ r ih =>
    intro n hr hno hn
    obtain ⟨n, rfl⟩ : ∃ k, n = k + 1 := ⟨n - 1, by omega⟩
    unfold lp_Mo_ask_67 kl_Mo_ask_67
    have c1 : ¬ nI (r + 1) - 1 < 0 := fun w => by have := (sub_lt0 (by omega)).mp w; omega
    have hr' : nI (r + 1) - 1 = nI r := nI_pred r
    obtain ⟨o, o1, o2, o3⟩ := findM_eq h (vr := vr) (q := q) (wh := wh) (len := r) hvr hq hwh (by omega) (path := path) (fun k hk => hp k (by omega))
    rw [if_neg c1, if_neg c1, hr', o2, sub_neg]
    cases o with
    | some t =>
      have ht : t < aN A 4 := o1.1
      have e2 : oI (fun t => 2682 + 29 * t) (some t) = nI (2682 + 29 * t) := rfl
      have e3 : nI (2682 + 29 * t) + 3 = nI (2682 + 29 * t + 3) := by
        show nI (2682 + 29 * t) + nI 3 = _
        rw [nI_add]
      have n2 : ¬ nI (2682 + 29 * t) = -1 := nI_m1 (by omega)
      rw [e2, if_neg n2, if_neg n2, e3, nI_clamp (by omega)]
      exact ⟨some t, ⟨r, by omega, o1, fun r' w1 w2 => hno r' (by omega) w2⟩, rfl, fun _ _ => ⟨o3, inL _ (by omega), trivial⟩⟩
    | none =>
      have e2 : oI (fun t => 2682 + 29 * t) none = -1 := rfl
      rw [e2, if_pos rfl, if_pos rfl]
      obtain ⟨o, p1, p2, p3⟩ := ih n (by omega) (fun r' w1 w2 => by
        by_cases z : r' = r
        · rw [z]; exact o1
        · exact hno r' (by omega) w2) (by omega)
      exact ⟨o, p1, p2, fun w1 w2 => ⟨o3, p3 w1 w2⟩⟩
theorem ask_l (hW : PW ps) {q wh : Nat} (hq : q < 30) (hwh : wh < 2) {i s : Nat} {pa pb : Int32} {d : Nat} (hg : ps[i]? = some (s, pa, pb, d)) (hB : BK σ ps) (v1 : Int32) (w1 w2 : Int32) : ∀ (m : Nat) (v : Nat) (τ : SM) (nC nM u : Nat), RR c A (xL σ) (yL τ 0) → PR τ ps → v < m → v < aN A 3 → u + v < 10 → v + 1 < nC → v + 1 < nM →
    ∃ τ', yL τ' = yL τ ∧ yn τ' = yn τ ∧ yf τ' = yf τ ∧ PR τ' ps ∧ kl_Mo_ask_50 nM τ w1 (nI i) (nI q) (nI wh) (nI v) ∧
      ((∃ t, t < aN A 4 ∧ lp_Variants_nearest_6 nC σ (nI wh) v1 (nI i) (nI q) (nI v) (nI u) = nI t ∧ lp_Mo_ask_50 nM τ w1 (nI i) (nI q) (nI wh) (nI v) = (yL τ 0 (2682 + 29 * t + 3), τ')) ∨
       (lp_Variants_nearest_6 nC σ (nI wh) v1 (nI i) (nI q) (nI v) (nI u) = -1 ∧ lp_Mo_ask_50 nM τ w1 (nI i) (nI q) (nI wh) (nI v) = ((nI wh).toInt64, τ'))) := by
  intro m
  induction m with
  | zero => intro v τ nC nM u _ _ h; omega
  | succ m ih =>
    intro v τ nC nM u h hP hv hvn hu hC hM
    have h10 := h.1.2.2.2.1.2.2
    obtain ⟨nC, rfl⟩ : ∃ k, nC = k + 1 := ⟨nC - 1, by omega⟩
    obtain ⟨nM, rfl⟩ : ∃ k, nM = k + 1 := ⟨nM - 1, by omega⟩
    obtain ⟨hd, -⟩ := hW.2 i s pa pb d hg
    obtain ⟨τp, p1, p2, p3, p4, p5, p6, p7⟩ := pathOf_eq hW hP hg
    have hlt := pathf_lt hW d i s pa pb hg
    have hp : RR c A (xL σ) (yL τp 0) := by rw [p5]; exact h
    unfold lp_Variants_nearest_6 lp_Mo_ask_50 kl_Mo_ask_50
    have n1 : ¬ nI v = -1 := nI_m1 (by omega)
    have e25 : (24 : Int32).toNatClampNeg + 1 = 25 := by decide
    have sd : nI d = nI (d + 1) - 1 := (nI_pred d).symm
    rw [if_neg (show ¬ (10 : Int32) ≤ nI u from nI_ge (b := 10) (by omega) (by decide)), if_neg n1, if_neg n1, if_neg n1, p1, e25, subj_eq, nI_clamp (show d < 2 ^ 31 by omega)]
    obtain ⟨o, o1, o2⟩ := near35 (τ := τp) (σ := σ) hp hB hW (vr := v) (q := q) (wh := wh) (by omega) hq hwh (lp_Variants_nearest_6 nC) (nI wh) v1 (nI i) (nI q) (nI u) (d := d) (pathf ps d i) d i s pa pb 25 0 hg (Nat.le_refl _) (fun _ _ => rfl) (fun r' w1 w2 => by omega) (by omega) (by omega)
    obtain ⟨o', q1, q2, q3⟩ := ask67 (τ := τp) hp (vr := v) (q := q) (wh := wh) (d := d) (by omega) hq hwh hd (path := pathf ps d i) (fun k hk => ⟨hlt k hk, p3 k hk⟩) (lp_Mo_ask_50 nM) (kl_Mo_ask_50 nM) w1 (nI i) (nI d) (d + 1) (d + 2) (by omega) (fun r' w1 w2 => by omega) (by omega)
    rw [← sd] at q2 q3
    rw [nI_0] at o2
    have eo := NV_eq o1 q1
    subst eo
    rw [o2]
    cases o with
    | some t =>
      have ht : t < aN A 4 := by obtain ⟨r, -, hF, -⟩ := o1; exact hF.1
      refine ⟨τp, p5, p6, p7, p4, ⟨p2, q3 (fun _ _ => trivial) (fun z => by cases z)⟩, Or.inl ⟨t, ht, rfl, ?_⟩⟩
      rw [← p5]; exact q2
    | none =>
      obtain ⟨r1, r2⟩ := hp.2.2.2.2.2.1 v hvn
      have e13 : m_Row_at σ 13 (nI v) = (yL τp 0 (2672 + v)).toInt32 := by rw [at_in (k := 13) (show v < 10 by omega), r1]
      have q2' : lp_Mo_ask_67 (lp_Mo_ask_50 nM) (d + 2) τp w1 (nI i) (nI q) (nI wh) (nI v) (nI d) (nI d) = lp_Mo_ask_50 nM τp w1 (nI i) (nI q) (nI wh) (yL τp 0 (2672 + v)).toInt32 := q2
      show ∃ τ', _ ∧ _ ∧ _ ∧ _ ∧ _ ∧ ((∃ t, _ ∧ lp_Variants_nearest_6 nC σ (nI wh) v1 (nI i) (nI q) (m_Row_at σ 13 (nI v)) (nI u + 1) = _ ∧ lp_Mo_ask_67 (lp_Mo_ask_50 nM) (d + 2) τp w1 (nI i) (nI q) (nI wh) (nI v) (nI d) (nI d) = _) ∨ (lp_Variants_nearest_6 nC σ (nI wh) v1 (nI i) (nI q) (m_Row_at σ 13 (nI v)) (nI u + 1) = _ ∧ lp_Mo_ask_67 (lp_Mo_ask_50 nM) (d + 2) τp w1 (nI i) (nI q) (nI wh) (nI v) (nI d) (nI d) = _))
      rw [e13, q2', nI_1]
      rcases r2 with e | ⟨a, ha, e⟩
      · rw [e, m1_32] at q3 ⊢
        have z1 : lp_Variants_nearest_6 nC σ (nI wh) v1 (nI i) (nI q) (-1) (nI (u + 1)) = -1 := by
          obtain ⟨k, rfl⟩ : ∃ k, nC = k + 1 := ⟨nC - 1, by omega⟩
          unfold lp_Variants_nearest_6
          by_cases y : (10 : Int32) ≤ nI (u + 1)
          · rw [if_pos y]
          · rw [if_neg y, if_pos rfl]
        obtain ⟨k, rfl⟩ : ∃ k, nM = k + 1 := ⟨nM - 1, by omega⟩
        have z2 : lp_Mo_ask_50 (k + 1) τp w1 (nI i) (nI q) (nI wh) (-1) = ((nI wh).toInt64, τp) := by unfold lp_Mo_ask_50; rw [if_pos rfl]
        have z3 : kl_Mo_ask_50 (k + 1) τp w1 (nI i) (nI q) (nI wh) (-1) := by unfold kl_Mo_ask_50; rw [if_pos rfl]; trivial
        exact ⟨τp, p5, p6, p7, p4, ⟨p2, q3 (fun _ _ => trivial) (fun _ => z3)⟩, Or.inr ⟨z1, z2⟩⟩
      · rw [e, lN_i] at q3 ⊢
        obtain ⟨τ', i1, i2, i3, i4, i5, i6⟩ := ih a τp nC nM (u + 1) hp p4 (by omega) (by omega) (by omega) (by omega) (by omega)
        refine ⟨τ', i1.trans p5, i2.trans p6, i3.trans p7, i4, ⟨p2, q3 (fun _ _ => trivial) (fun _ => i5)⟩, ?_⟩
        rw [← p5]
        exact i6
end AS2
theorem op_heard {c : Nat} (hc : c + 1 ≤ 1000) {σ : SC} {τ : SM} (h : RL c σ τ) {wh : Nat} (hwh : wh < 2) (x y z : Int32) : okR (c + 1) σ (m_ST_heard σ (nI wh) x y z (lN wh)) (k_Mo_ask τ x y z (nI wh)) (m_Mo_ask τ x y z (nI wh)) := by
  obtain ⟨A, hA⟩ := h
  have hA : RLA c A σ τ := hA
  have hW := pgs_PW hA.1.2.2.1 hA.1.1.1.2.2.1
  have h10 := hA.1.1.2.2.2.1.2.2
  have h40 := hA.1.1.2.2.2.2.1.2.2
  have hq30 := hA.1.1.2.2.1.2.2
  obtain ⟨τ1, l1, l2, l3, l4, l5, l6⟩ := isPage_eq hA y
  -- behind the variant's test
  have core : (x = -1 ∨ ∃ v, v < aN A 3 ∧ x = nI v) → okR (c + 1) σ (match m_ST_needPage σ y with | none => none | some _ => match m_ST_needPart σ z with | none => none | some _ => if m_Variants_nearest σ (nI wh) x y z = -1 then some (lN wh) else some (m_Variants_content σ (m_Variants_nearest σ (nI wh) x y z)))
      (k_Mo_isPage τ y ∧ if bi (m_Mo_isPage τ y).1 = 0 then True else k_Mo_isPart (m_Mo_isPage τ y).2 z ∧ if bi (m_Mo_isPart (m_Mo_isPage τ y).2 z) = 0 then True else kl_Mo_ask_50 12 (wn (m_Mo_isPage τ y).2 0 0) x y z (nI wh) x)
      (if bi (m_Mo_isPage τ y).1 = 0 then (0, wn (m_Mo_isPage τ y).2 0 1) else if bi (m_Mo_isPart (m_Mo_isPage τ y).2 z) = 0 then (0, wn (m_Mo_isPage τ y).2 0 1) else lp_Mo_ask_50 12 (wn (m_Mo_isPage τ y).2 0 0) x y z (nI wh) x) := by
    intro hx
    rw [l1]
    unfold m_ST_needPart
    rcases l6 with ⟨b1, b2⟩ | ⟨i, hi, rfl, b1, b2⟩
    · rw [b1, b2, if_pos bf, if_pos bf]
      exact okR_no ⟨l2, trivial⟩ rfl ((l4.th 1).up hc).rl
    · rw [b1, b2, if_neg bt, if_neg bt]
      rcases qt_cases l4.1 z with ⟨d1, d2, d3⟩ | ⟨q, hq, rfl, d1, d2, d3⟩
      · rw [d1, d2, if_pos bf, if_pos bf, if_pos bf]
        exact okR_no ⟨l2, d3, trivial⟩ rfl ((l4.th 1).up hc).rl
      · rw [d1, d2, if_neg bt, if_neg bt, if_neg bt]
        show okR (c + 1) σ (if m_Variants_nearest σ (nI wh) x (nI i) (nI q) = -1 then some (lN wh) else some (m_Variants_content σ (m_Variants_nearest σ (nI wh) x (nI i) (nI q)))) _ _
        obtain ⟨s, pa, pb, d, hg⟩ := get4 hi
        unfold m_Variants_nearest
        have e11 : (10 : Int32).toNatClampNeg + 1 = 11 := by decide
        rw [e11]
        rcases hx with rfl | ⟨v, hv, rfl⟩
        · have z1 : lp_Variants_nearest_6 11 σ (nI wh) (-1) (nI i) (nI q) (-1) 0 = -1 := by
            unfold lp_Variants_nearest_6; rw [if_neg (by decide), if_pos rfl]
          have z2 : lp_Mo_ask_50 12 (wn τ1 0 0) (-1) (nI i) (nI q) (nI wh) (-1) = ((nI wh).toInt64, wn τ1 0 0) := by unfold lp_Mo_ask_50; rw [if_pos rfl]
          have z3 : kl_Mo_ask_50 12 (wn τ1 0 0) (-1) (nI i) (nI q) (nI wh) (-1) := by unfold kl_Mo_ask_50; rw [if_pos rfl]; trivial
          rw [z1, z2, if_pos rfl]
          exact okR_mk ⟨l2, d3, z3⟩ rfl (nI_l (by omega)).symm ((l4.th 0).up hc).rl
        · have l40 := l4.th 0
          obtain ⟨τ', i1, i2, i3, i4, i5, i6⟩ := ask_l (c := c) (A := A) (σ := σ) hW (q := q) (wh := wh) (by omega) hwh hg hA.2.2.1 (nI v) (nI v) (nI v) (v + 1) v (wn τ1 0 0) 11 12 0 l40.1 l3 (by omega) hv (by omega) (by omega) (by omega)
          have hr := ((l40.tn (τ' := τ') (by rw [i1]) (by rw [i1]) (fun k _ _ => by rw [i2]) (fun _ => i4)).up hc).rl
          have h0 : yn τ' 0 = 0 := by rw [i2]; rfl
          rw [nI_0] at i6
          rcases i6 with ⟨t, ht, j1, j2⟩ | ⟨j1, j2⟩
          · rw [j1, j2, if_neg (nI_m1 (by omega))]
            unfold m_Variants_content
            obtain ⟨vr', qq', wh', len', -, -, -, -, -, -, -, -, -, x10, -, -⟩ := l40.1.2.2.2.2.2.2.1 t ht
            rw [la_in (k := 15) (show t < 40 by omega)]
            exact okR_mk ⟨l2, d3, i5⟩ h0 x10 hr
          · rw [j1, j2, if_pos rfl]
            exact okR_mk ⟨l2, d3, i5⟩ h0 (nI_l (by omega)).symm hr
  unfold m_ST_heard m_Mo_ask k_Mo_ask m_ST_needVariantOrNone m_ST_needVariant
  by_cases c0 : x = -1
  · rw [if_pos c0, if_pos c0, if_pos c0]
    exact core (Or.inl c0)
  · rw [if_neg c0, if_neg c0, if_neg c0]
    rcases va_cases hA.1 x with ⟨a1, a2, a3⟩ | ⟨v, hv, rfl, a1, a2, a3⟩
    · rw [a1, a2, if_pos bf, if_pos bf, if_pos bf]
      exact okR_no ⟨a3, trivial⟩ rfl ((hA.th 1).up hc).rl
    · rw [a1, a2, if_neg bt, if_neg bt, if_neg bt]
      obtain ⟨k1, k2⟩ := core (Or.inr ⟨v, hv, rfl⟩)
      exact ⟨⟨a3, k1⟩, k2⟩
theorem op_valueOf {c : Nat} (hc : c + 1 ≤ 1000) {σ : SC} {τ : SM} (h : RL c σ τ) (x y z : Int32) : okR (c + 1) σ (m_ST_valueOf σ x y z) (k_Mo_valueOf τ x y z) (m_Mo_valueOf τ x y z) := by
  obtain ⟨h1, h2⟩ := op_heard hc h (wh := 0) (by decide) x y z
  unfold m_ST_valueOf m_Mo_valueOf k_Mo_valueOf
  have e0 : (0 : Int32) = nI 0 := by decide
  have e1 : (0 : Int64) = lN 0 := by decide
  rw [e0, e1]
  generalize m_ST_heard σ (nI 0) x y z (lN 0) = R at h2 ⊢
  refine ⟨⟨h1, trivial⟩, ?_⟩
  rcases h2 with ⟨rfl, w⟩ | ⟨b, rfl, w⟩
  · exact Or.inl ⟨rfl, w⟩
  · exact Or.inr ⟨b, rfl, w⟩
theorem op_fitted {c : Nat} (hc : c + 1 ≤ 1000) {σ : SC} {τ : SM} (h : RL c σ τ) (x y z : Int32) : okR (c + 1) σ (m_ST_fitted σ x y z) (k_Mo_fitted τ x y z) (m_Mo_fitted τ x y z) := by
  obtain ⟨h1, h2⟩ := op_heard hc h (wh := 1) (by decide) x y z
  unfold m_ST_fitted m_Mo_fitted k_Mo_fitted
  have e0 : m_ST_heard σ 1 x y z 1 = m_ST_heard σ (nI 1) x y z (lN 1) := rfl
  have e1 : m_Mo_ask τ x y z 1 = m_Mo_ask τ x y z (nI 1) := rfl
  have e2 : k_Mo_ask τ x y z 1 = k_Mo_ask τ x y z (nI 1) := rfl
  rw [e0, e1, e2]
  generalize m_ST_heard σ (nI 1) x y z (lN 1) = R at h2 ⊢
  generalize m_Mo_ask τ x y z (nI 1) = T at h2 ⊢
  refine ⟨⟨h1, by split <;> trivial⟩, ?_⟩
  rcases h2 with ⟨rfl, w⟩ | ⟨b, rfl, w0, w1, w2⟩
  · left
    by_cases z : lg_cmp T.1 1 = 0
    · rw [if_pos z]; exact ⟨rfl, w⟩
    · rw [if_neg z]; exact ⟨rfl, w⟩
  · right
    rw [← w1]
    by_cases z : lg_cmp b 1 = 0
    · rw [if_pos z]; exact ⟨true, by show (if lg_cmp b 1 = 0 then some true else some false) = _; rw [if_pos z], w0, rfl, w2⟩
    · rw [if_neg z]; exact ⟨false, by show (if lg_cmp b 1 = 0 then some true else some false) = _; rw [if_neg z], w0, rfl, w2⟩
