/-! ===== pages, units ===== -/
def RLA (c : Nat) (A : AS) (σ : SC) (τ : SM) : Prop := RR c A (xL σ) (yL τ 0) ∧ xo σ = [] ∧ BK σ (pgs (aP A) (aF A 3)) ∧ (yf τ = true → PR τ (pgs (aP A) (aF A 3))) ∧ xn σ 3 = yn τ 3 ∧ HI c σ τ (xL σ)
theorem RLA.tn {c : Nat} {A : AS} {σ : SC} {τ τ' : SM} (h : RLA c A σ τ) (e0 : yL τ' 0 = yL τ 0) (e2 : yL τ' 2 = yL τ 2) (en : ∀ k, 1 ≤ k → k < 4 → yn τ' k = yn τ k) (hp : yf τ' = true → PR τ' (pgs (aP A) (aF A 3))) : RLA c A σ τ' := by
  obtain ⟨h1, h2, h3, h4, h5, n, i, f, g1, g2, g3, g4, g5, g6, g7, g8⟩ := h
  exact ⟨by rw [e0]; exact h1, h2, h3, hp, by rw [en 3 (by decide) (by decide)]; exact h5, n, i, f, g1, g2, g3, g4, g5, by rw [en 1 (by decide) (by decide)]; exact g6, by rw [en 2 (by decide) (by decide)]; exact g7, by rw [e2]; exact g8⟩
theorem RLA.rl {c : Nat} {A : AS} {σ : SC} {τ : SM} (h : RLA c A σ τ) : RL c σ τ := ⟨A, h⟩
theorem RLA.up {c : Nat} {A : AS} {σ : SC} {τ : SM} (h : RLA c A σ τ) (hc : c + 1 ≤ 1000) : RLA (c + 1) A σ τ := by
  obtain ⟨h1, h2, h3, h4, h5, n, i, f, g1, g2, g3, g4, g5, g6, g7, g8⟩ := h
  exact ⟨h1.up hc, h2, h3, h4, h5, n, i, f, g1, g2, g3, g4, g5, g6, g7, hs_up hc g8⟩
theorem RLA.th {c : Nat} {A : AS} {σ : SC} {τ : SM} (h : RLA c A σ τ) (v : Int32) : RLA c A σ (wn τ 0 v) :=
  h.tn rfl rfl (fun k h1 _ => by rw [yn_wn, if_neg (by omega)]) h.2.2.2.1
theorem look_eq {c : Nat} {A : AS} {σ : SC} {τ : SM} (h : RLA c A σ τ) : ∃ τ', m_Mo_look τ = τ' ∧ k_Mo_look τ ∧ PR τ' (pgs (aP A) (aF A 3)) ∧ RLA c A σ τ' ∧ yL τ' 0 = yL τ 0 ∧ yn τ' 0 = yn τ 0 := by
  unfold m_Mo_look k_Mo_look
  cases hf : yf τ with
  | true =>
    rw [if_neg bt, if_neg bt]
    exact ⟨τ, rfl, trivial, h.2.2.2.1 hf, h, rfl, rfl⟩
  | false =>
    rw [if_pos bf, if_pos bf]
    obtain ⟨τ', h1, h2, h3, h4⟩ := turn_eq h.1.2.2.1 h.1.1.2.1.2.1
    have hp : PR (wf τ' true) (pgs (aP A) (aF A 3)) := h3
    rw [h1]
    exact ⟨_, rfl, ⟨h2, trivial⟩, hp, h.tn h4.1 h4.2.2.1 (fun k _ hk => h4.2.2.2.1 k (by omega)) (fun _ => hp), h4.1, h4.2.2.2.1 0 (by decide)⟩
theorem op_pages {c : Nat} (hc : c + 1 ≤ 1000) {σ : SC} {τ : SM} (h : RL c σ τ) : okV (c + 1) σ (m_ST_pages σ) (k_Mo_pages τ) (m_Mo_pages τ) := by
  obtain ⟨A, hA⟩ := h
  have hA : RLA c A σ τ := hA
  obtain ⟨τ', l1, l2, l3, l4, l5, l6⟩ := look_eq (hA.th 0)
  unfold m_ST_pages m_Mo_pages k_Mo_pages
  rw [l1]
  exact ⟨⟨l2, trivial⟩, l6, by show m_Book_count σ = yn τ' 4; rw [l3.1]; exact hA.2.2.1.1, (l4.up hc).rl⟩
theorem isPage_eq {c : Nat} {A : AS} {σ : SC} {τ : SM} (h : RLA c A σ τ) (x : Int32) : ∃ τ', (m_Mo_isPage τ x).2 = τ' ∧ k_Mo_isPage τ x ∧ PR τ' (pgs (aP A) (aF A 3)) ∧ RLA c A σ τ' ∧ yL τ' 0 = yL τ 0 ∧
    ((m_ST_needPage σ x = none ∧ (m_Mo_isPage τ x).1 = false) ∨ ∃ i, i < (pgs (aP A) (aF A 3)).length ∧ x = nI i ∧ m_ST_needPage σ x = some () ∧ (m_Mo_isPage τ x).1 = true) := by
  obtain ⟨τ', l1, l2, l3, l4, l5, l6⟩ := look_eq h
  have hb := (pgs_PV h.1.2.2.1 h.1.1.1.2.2.1).2.1
  unfold m_Mo_isPage k_Mo_isPage m_ST_needPage m_Book_count
  rw [l1, l3.1, h.2.2.1.1]
  rcases ix_cases x (n := (pgs (aP A) (aF A 3)).length) (by omega) with z | ⟨z, y⟩ | ⟨j, hj, e, z, y⟩
  · rw [if_pos z, if_pos z, if_pos z]; exact ⟨τ', rfl, ⟨l2, trivial⟩, l3, l4, l5, Or.inl ⟨rfl, rfl⟩⟩
  · have y2 : ¬ x < nI (pgs (aP A) (aF A 3)).length := Int32.not_lt.mpr y
    rw [if_neg z, if_neg z, if_neg z, if_pos y, if_pos y, if_neg y2]; exact ⟨τ', rfl, ⟨l2, trivial⟩, l3, l4, l5, Or.inl ⟨rfl, rfl⟩⟩
  · have y2 : x < nI (pgs (aP A) (aF A 3)).length := Int32.not_le.mp y
    rw [if_neg z, if_neg z, if_neg z, if_neg y, if_neg y, if_pos y2]; exact ⟨τ', rfl, ⟨l2, trivial⟩, l3, l4, l5, Or.inr ⟨j, hj, e, rfl, rfl⟩⟩
theorem get4 {ps : List Pg} {i : Nat} (h : i < ps.length) : ∃ s a b d, ps[i]? = some (s, a, b, d) := by
  rcases hx : ps[i]? with _ | ⟨s, a, b, d⟩
  · rw [List.getElem?_eq_none_iff] at hx; omega
  · exact ⟨s, a, b, d, rfl⟩
theorem op_page {c : Nat} (hc : c + 1 ≤ 1000) {σ : SC} {τ : SM} (h : RL c σ τ) (x y : Int32) : okR (c + 1) σ (m_ST_page σ x y) (k_Mo_page τ x y) (m_Mo_page τ x y) := by
  obtain ⟨A, hA⟩ := h
  have hA : RLA c A σ τ := hA
  have hb := (pgs_PV hA.1.2.2.1 hA.1.1.1.2.2.1).2.1
  obtain ⟨τ', l1, l2, l3, l4, l5, l6⟩ := isPage_eq hA x
  have lt := fun v => ((l4.th v).up hc).rl
  unfold m_ST_page m_Mo_page k_Mo_page
  rw [l1]
  rcases l6 with ⟨a1, a2⟩ | ⟨i, hi, rfl, a1, a2⟩
  · rw [a1, a2, if_pos bf, if_pos bf]
    exact okR_no ⟨l2, trivial⟩ rfl (lt 1)
  · rw [a1, a2, if_neg bt, if_neg bt, nI_clamp (by omega), yI_wn]
    show okR (c + 1) σ (if y = 0 then some (m_Book_sheetAt σ (nI i)) else if y = 1 then some (m_Book_placementAt σ (nI i)) else if y = 2 then some (m_Book_pageAbove σ (nI i)) else if y = 3 then some (m_Book_depthAt σ (nI i)) else none) _ _
    obtain ⟨s, a, b, d, hg⟩ := get4 hi
    obtain ⟨p1, p2, p3, p4⟩ := l3.2 i s a b d hg
    obtain ⟨b1, b2, b3, b4, -⟩ := hA.2.2.1.2.1 i s a b d hg
    unfold m_Book_sheetAt m_Book_placementAt m_Book_pageAbove m_Book_depthAt
    rw [rd_in (j := 0) (show i < 301 by omega), rd_in (j := 1) (show i < 301 by omega), rd_in (j := 2) (show i < 301 by omega), rd_in (j := 3) (show i < 301 by omega), b1, b2, b3, b4, p1, p2, p3, p4]
    have vi : vp_in (nI i) 301 := vp_in_nI (by omega) (by decide)
    by_cases c0 : y = 0
    · subst c0
      rw [if_pos rfl, if_neg (show ¬ (0 : Int32) < 0 by decide), if_neg (show ¬ (0 : Int32) < 0 by decide), if_neg (show ¬ (4 : Int32) ≤ 0 by decide), if_neg (show ¬ (4 : Int32) ≤ 0 by decide), if_pos rfl, if_pos rfl]
      exact okR_mk ⟨l2, vi, trivial⟩ rfl rfl (lt 0)
    by_cases c1 : y = 1
    · subst c1
      rw [if_neg (show ¬ (1 : Int32) = 0 by decide), if_pos rfl, if_neg (show ¬ (1 : Int32) < 0 by decide), if_neg (show ¬ (1 : Int32) < 0 by decide), if_neg (show ¬ (4 : Int32) ≤ 1 by decide), if_neg (show ¬ (4 : Int32) ≤ 1 by decide), if_neg (show ¬ (1 : Int32) = 0 by decide), if_neg (show ¬ (1 : Int32) = 0 by decide), if_pos rfl, if_pos rfl]
      exact okR_mk ⟨l2, vi, trivial⟩ rfl rfl (lt 0)
    by_cases c2 : y = 2
    · subst c2
      rw [if_neg (show ¬ (2 : Int32) = 0 by decide), if_neg (show ¬ (2 : Int32) = 1 by decide), if_pos rfl, if_neg (show ¬ (2 : Int32) < 0 by decide), if_neg (show ¬ (2 : Int32) < 0 by decide), if_neg (show ¬ (4 : Int32) ≤ 2 by decide), if_neg (show ¬ (4 : Int32) ≤ 2 by decide), if_neg (show ¬ (2 : Int32) = 0 by decide), if_neg (show ¬ (2 : Int32) = 0 by decide), if_neg (show ¬ (2 : Int32) = 1 by decide), if_neg (show ¬ (2 : Int32) = 1 by decide), if_pos rfl, if_pos rfl]
      exact okR_mk ⟨l2, vi, trivial⟩ rfl rfl (lt 0)
    by_cases c3 : y = 3
    · subst c3
      rw [if_neg (show ¬ (3 : Int32) = 0 by decide), if_neg (show ¬ (3 : Int32) = 1 by decide), if_neg (show ¬ (3 : Int32) = 2 by decide), if_pos rfl, if_neg (show ¬ (3 : Int32) < 0 by decide), if_neg (show ¬ (3 : Int32) < 0 by decide), if_neg (show ¬ (4 : Int32) ≤ 3 by decide), if_neg (show ¬ (4 : Int32) ≤ 3 by decide), if_neg (show ¬ (3 : Int32) = 0 by decide), if_neg (show ¬ (3 : Int32) = 0 by decide), if_neg (show ¬ (3 : Int32) = 1 by decide), if_neg (show ¬ (3 : Int32) = 1 by decide), if_neg (show ¬ (3 : Int32) = 2 by decide), if_neg (show ¬ (3 : Int32) = 2 by decide)]
      exact okR_mk ⟨l2, vi, trivial⟩ rfl rfl (lt 0)
    · rw [if_neg c0, if_neg c1, if_neg c2, if_neg c3]
      by_cases n1 : y < 0
      · rw [if_pos n1, if_pos n1]
        exact okR_no ⟨l2, trivial⟩ rfl (lt 1)
      · have n2 : (4 : Int32) ≤ y := by
          obtain ⟨j, hj, rfl⟩ := nI_of n1
          refine nI_le (a := 4) ?_ hj
          have w0 : j ≠ 0 := fun z => c0 (by rw [z]; rfl)
          have w1 : j ≠ 1 := fun z => c1 (by rw [z]; rfl)
          have w2 : j ≠ 2 := fun z => c2 (by rw [z]; rfl)
          have w3 : j ≠ 3 := fun z => c3 (by rw [z]; rfl)
          omega
        rw [if_neg n1, if_neg n1, if_pos n2, if_pos n2]
        exact okR_no ⟨l2, trivial⟩ rfl (lt 1)
/-! units: g is a gate's sheet + 1 -/
def uc (ps : List Pg) (g : Nat) : Nat := if g = 0 then 0 else ps.countP (fun x => x.1 == g - 1)
def uMx (f : Nat → Nat) : Nat → Nat → Nat → Nat
  | 0, _, a => a
  | m + 1, g, a => uMx f m (g + 1) (max a (f g))
theorem uc_le (ps : List Pg) (g : Nat) : uc ps g ≤ ps.length := by
  unfold uc; split
  · omega
  · exact List.countP_le_length
theorem uMx_le {f : Nat → Nat} {b : Nat} (hf : ∀ g, f g ≤ b) : ∀ (m g a : Nat), a ≤ b → uMx f m g a ≤ b
  | 0, _, _, h => h
  | m + 1, g, a, h => uMx_le hf m (g + 1) (max a (f g)) (by have := hf g; omega)
theorem nI_sub1 {g s : Nat} (hg : g < 2 ^ 31) (hs : s + 1 < 2 ^ 31) : nI s = nI g - 1 ↔ g = s + 1 := by
  cases g with
  | zero =>
    have : nI 0 - 1 = -1 := by decide
    rw [this]
    exact ⟨fun w => absurd w (nI_m1 (by omega)), fun w => by omega⟩
  | succ g =>
    have : nI (g + 1) - 1 = nI g := nI_pred g
    rw [this, nI_eq (by omega) (by omega)]; omega
theorem lN_sub1 {g s : Nat} (hg : g < 2 ^ 31) (hs : s + 1 < 2 ^ 31) : lg_cmp (lN s) (lN g - 1) = 0 ↔ g = s + 1 := by
  rw [cmp0]
  have : lN s = lN g - 1 ↔ lN (s + 1) = lN g := by
    rw [← lN_1]
    constructor
    · intro e; rw [e, Int64.sub_add_cancel]
    · intro e; rw [← e, Int64.add_sub_cancel]
  rw [this, lN_eq (by omega) (by omega)]; omega
section UN
variable {c : Nat} {A : AS} {σ : SC} {τ : SM}
theorem comings_g {ps : List Pg} (hB : BK σ ps) (hl : ps.length ≤ 301) {g : Nat} (hg : g ≤ 24) : m_Book_comingsOf σ (nI g - 1) = nI (uc ps g) := by
  cases g with
  | zero =>
    have : nI 0 - 1 = -1 := by decide
    rw [this]
    unfold m_Book_comingsOf
    rw [rd_neg, if_pos (by decide)]; rfl
  | succ g =>
    have : nI (g + 1) - 1 = nI g := nI_pred g
    have hc := List.countP_le_length (p := fun x : Pg => x.1 == g) (l := ps)
    rw [this, comings_eq (c := ps.countP (fun x => x.1 == g)) (by omega) (by omega) (hB.2.2 g (by omega))]
    unfold uc; rw [if_neg (by omega)]; rfl
theorem unitC_l (h : RR c A (xL σ) (yL τ 0)) {ps : List Pg} (hB : BK σ ps) (hl : ps.length ≤ 301) {q : Nat} (hq : q < aN A 2) : ∀ (m g a : Nat), g + m = aF A 6 q → a ≤ 301 → lp_Parts_unitCount_4 (m + 1) σ (nI q) (nI a) (nI g) = nI (uMx (fun g => uc ps (aF A 7 (8 * q + g))) m g a) := by
  have b := h.1.2.2.1.2.2
  obtain ⟨y1, y2, y3, y4, y5, y6, y7⟩ := h.2.2.2.2.1.1 q hq
  have hct : m_Parts_gateCount σ (nI q) = nI (aF A 6 q) := by
    unfold m_Parts_gateCount; rw [at_in (k := 8) (show q < 30 by omega), y6, lN_i]
  intro m
  induction m with
  | zero =>
    intro g a hg ha
    unfold lp_Parts_unitCount_4
    rw [hct, if_pos (nI_le (by omega) (by omega))]; rfl
  | succ m ih =>
    intro g a hg ha
    unfold lp_Parts_unitCount_4
    have hns := h.1.1.2.2.2
    have hgs := (h.2.2.2.2.1.2.1 (8 * q + g) (by omega)).2.2.1
    have hu := uc_le ps (aF A 7 (8 * q + g))
    rw [hct, if_neg (nI_ge (by omega) (by omega)), sheetOfGate_eq h hq (by omega), comings_g hB hl (by omega), nI_1]
    show _ = nI (uMx _ m (g + 1) (max a (uc ps (aF A 7 (8 * q + g)))))
    by_cases z : a < uc ps (aF A 7 (8 * q + g))
    · rw [if_pos (nI_lt z (by omega)), ih (g + 1) _ (by omega) (by omega), Nat.max_eq_right (by omega)]
    · rw [if_neg (nI_nlt (by omega) (by omega)), ih (g + 1) _ (by omega) (by omega), Nat.max_eq_left (by omega)]
def units (A : AS) (ps : List Pg) (q : Nat) : Nat := uMx (fun g => uc ps (aF A 7 (8 * q + g))) (aF A 6 q) 0 0
theorem units_le (A : AS) (ps : List Pg) (q : Nat) : units A ps q ≤ ps.length := uMx_le (fun g => uc_le ps _) _ _ _ (Nat.zero_le _)
theorem unitC_eq (h : RR c A (xL σ) (yL τ 0)) {ps : List Pg} (hB : BK σ ps) (hl : ps.length ≤ 301) {q : Nat} (hq : q < aN A 2) : m_Parts_unitCount σ (nI q) = nI (units A ps q) := by
  have b := h.1.2.2.1.2.2
  obtain ⟨y1, y2, y3, y4, y5, y6, y7⟩ := h.2.2.2.2.1.1 q hq
  have hct : m_Parts_gateCount σ (nI q) = nI (aF A 6 q) := by
    unfold m_Parts_gateCount; rw [at_in (k := 8) (show q < 30 by omega), y6, lN_i]
  unfold m_Parts_unitCount
  rw [hct, nI_clamp (by omega)]
  have := unitC_l h hB hl hq (aF A 6 q) 0 0 (by omega) (by omega)
  rw [nI_0] at this
  exact this
theorem take_succ_count {ps : List Pg} {i : Nat} {s : Nat} {a b : Int32} {d : Nat} (h : ps[i]? = some (s, a, b, d)) (t : Nat) : (ps.take (i + 1)).countP (fun x => x.1 == t) = (ps.take i).countP (fun x => x.1 == t) + if s = t then 1 else 0 := by
  rw [List.take_add_one, h, List.countP_append]
  by_cases e : s = t
  · subst e; simp
  · simp [e]
theorem unitM30 {ps : List Pg} (hP : PR τ ps) (hl : ps.length ≤ 301) (hs : ∀ (i s : Nat) (a b : Int32) (d : Nat), ps[i]? = some (s, a, b, d) → s < 24) (K : SM → Int32 → Int32 → Int32 → Int32 × SM) (KP : SM → Int32 → Int32 → Int32 → Prop) {q g gv a : Nat} (hq : q < 30) (hg : g < 8) (hgv : gv ≤ 24) (hN : yL τ 0 (2192 + 8 * q + g) = lN gv) (ha : a ≤ 301) : ∀ (m i v : Nat), i + m = ps.length → v = (if gv = 0 then 0 else (ps.take i).countP (fun x => x.1 == gv - 1)) →
    lp_Mo_unitsOf_30 K (m + 1) τ (nI q) (nI a) (nI g) (nI v) (nI i) = K τ (nI q) (nI (max a (uc ps gv))) (nI (g + 1)) ∧ (KP τ (nI q) (nI (max a (uc ps gv))) (nI (g + 1)) → kl_Mo_unitsOf_30 KP (m + 1) τ (nI q) (nI a) (nI g) (nI v) (nI i)) := by
  intro m
  induction m with
  | zero =>
    intro i v hi hv
    have e : v = uc ps gv := by
      rw [hv]; unfold uc
      rw [List.take_of_length_le (by omega)]
    have hu := uc_le ps gv
    subst e
    unfold lp_Mo_unitsOf_30 kl_Mo_unitsOf_30
    have c1 : nI ps.length ≤ nI i := nI_le (by omega) (by omega)
    rw [hP.1, if_pos c1, if_pos c1, nI_1]
    by_cases z : uc ps gv ≤ a
    · have z1 := nI_le z (show a < 2 ^ 31 by omega)
      rw [if_pos z1, if_pos z1, Nat.max_eq_left z]; exact ⟨rfl, fun w => w⟩
    · have z1 : ¬ nI (uc ps gv) ≤ nI a := nI_ge (by omega) (by omega)
      rw [if_neg z1, if_neg z1, Nat.max_eq_right (by omega)]; exact ⟨rfl, fun w => w⟩
  | succ m ih =>
    intro i v hi hv
    unfold lp_Mo_unitsOf_30 kl_Mo_unitsOf_30
    have c1 : ¬ nI ps.length ≤ nI i := nI_ge (by omega) (by omega)
    obtain ⟨s, a', b', d', hgt⟩ := get4 (ps := ps) (i := i) (by omega)
    have hs24 := hs i s a' b' d' hgt
    have hsh := (hP.2 i s a' b' d' hgt).1
    rw [hP.1, if_neg c1, if_neg c1, g8_cl hq hg, hN, nI_clamp (show i < 2 ^ 31 by omega), hsh, nI_l (show s < 2 ^ 31 by omega), nI_1 i]
    have vi : vp_in (nI i) 301 := vp_in_nI (by omega) (by decide)
    have gi := g8_in hq hg
    have hstep := take_succ_count hgt (gv - 1)
    by_cases e : gv = s + 1
    · have c2 := (lN_sub1 (g := gv) (s := s) (by omega) (by omega)).mpr e
      rw [if_pos c2, if_pos c2, nI_1]
      obtain ⟨i1, i2⟩ := ih (i + 1) (v + 1) (by omega) (by
        rw [if_neg (by omega)] at hv ⊢
        rw [hstep, if_pos (by omega), hv])
      exact ⟨i1, fun w => ⟨vi, gi, i2 w⟩⟩
    · have c2 : ¬ lg_cmp (lN s) (lN gv - 1) = 0 := fun w => e ((lN_sub1 (by omega) (by omega)).mp w)
      have hz : nI v + 0 = nI v := Int32.add_zero _
      rw [if_neg c2, if_neg c2, hz]
      obtain ⟨i1, i2⟩ := ih (i + 1) v (by omega) (by
        rw [hv]
        by_cases g0 : gv = 0
        · rw [if_pos g0, if_pos g0]
        · rw [if_neg g0, if_neg g0, hstep, if_neg (by omega)]; rfl)
      exact ⟨i1, fun w => ⟨vi, gi, i2 w⟩⟩
theorem unitM_l (h : RR c A (xL σ) (yL τ 0)) {ps : List Pg} (hP : PR τ ps) (hl : ps.length ≤ 301) (hs : ∀ (i s : Nat) (a b : Int32) (d : Nat), ps[i]? = some (s, a, b, d) → s < 24) {q : Nat} (hq : q < aN A 2) : ∀ (m g a n : Nat), g + m = aF A 6 q → a ≤ 301 → m < n → lp_Mo_unitsOf_8 n τ (nI q) (nI a) (nI g) = (nI (uMx (fun g => uc ps (aF A 7 (8 * q + g))) m g a), τ) ∧ kl_Mo_unitsOf_8 n τ (nI q) (nI a) (nI g) := by
  have b := h.1.2.2.1.2.2
  obtain ⟨y1, y2, y3, y4, y5, y6, y7⟩ := h.2.2.2.2.1.1 q hq
  have e1 : ((2162 : Int32) + nI q).toNatClampNeg = 2162 + q := clA 2162 (by omega)
  intro m
  induction m with
  | zero =>
    intro g a n hg ha hn
    obtain ⟨n, rfl⟩ : ∃ k, n = k + 1 := ⟨n - 1, by omega⟩
    unfold lp_Mo_unitsOf_8 kl_Mo_unitsOf_8
    have c1 : 0 ≤ lg_cmp (lN g) (lN (aF A 6 q)) := cmp_ge.mpr ((lN_le (by omega) (by omega)).mpr (by omega))
    rw [e1, y7, nI_l (show g < 2 ^ 31 by omega), if_pos c1, if_pos c1]
    exact ⟨rfl, inA 2162 (by omega), trivial⟩
  | succ m ih =>
    intro g a n hg ha hn
    obtain ⟨n, rfl⟩ : ∃ k, n = k + 1 := ⟨n - 1, by omega⟩
    unfold lp_Mo_unitsOf_8 kl_Mo_unitsOf_8
    have c1 : ¬ 0 ≤ lg_cmp (lN g) (lN (aF A 6 q)) := fun w => by have := (lN_le (by omega) (by omega)).mp (cmp_ge.mp w); omega
    obtain ⟨x1, x2, x3, -⟩ := h.2.2.2.2.1.2.1 (8 * q + g) (by omega)
    have hns := h.1.1.2.2.2
    have hu := uc_le ps (aF A 7 (8 * q + g))
    rw [e1, y7, nI_l (show g < 2 ^ 31 by omega), if_neg c1, if_neg c1, hP.1, nI_clamp (by omega)]
    obtain ⟨k1, k2⟩ := unitM30 hP hl hs (lp_Mo_unitsOf_8 n) (kl_Mo_unitsOf_8 n) (q := q) (g := g) (gv := aF A 7 (8 * q + g)) (a := a) (by omega) (by omega) (by omega) (by rw [show 2192 + 8 * q + g = 2192 + (8 * q + g) by omega]; exact x1) ha ps.length 0 0 (by omega) (by simp)
    rw [nI_0] at k1 k2
    obtain ⟨i1, i2⟩ := ih (g + 1) (max a (uc ps (aF A 7 (8 * q + g)))) n (by omega) (by omega) (by omega)
    exact ⟨k1.trans i1, inA 2162 (by omega), k2 i2⟩
theorem unitM_eq (h : RLA c A σ τ) {q : Nat} (hq : q < aN A 2) : ∃ τ', m_Mo_unitsOf τ (nI q) = (nI (units A (pgs (aP A) (aF A 3)) q), τ') ∧ k_Mo_unitsOf τ (nI q) ∧ PR τ' (pgs (aP A) (aF A 3)) ∧ RLA c A σ τ' ∧ yL τ' 0 = yL τ 0 ∧ yn τ' 0 = yn τ 0 := by
  obtain ⟨τ', l1, l2, l3, l4, l5, l6⟩ := look_eq h
  obtain ⟨v1, v2, -⟩ := pgs_PV h.1.2.2.1 h.1.1.1.2.2.1
  have hns := h.1.1.1.2.2.2
  obtain ⟨y1, y2, y3, -⟩ := h.1.2.2.2.2.1.1 q hq
  unfold m_Mo_unitsOf k_Mo_unitsOf
  rw [l1]
  obtain ⟨u1, u2⟩ := unitM_l (τ := τ') l4.1 l3 v2 (fun i s a b d hi => by have := (v1 i s a b d hi).1; omega) hq (aF A 6 q) 0 0 10 (by omega) (by omega) (by omega)
  rw [nI_0] at u1 u2
  exact ⟨τ', u1, ⟨l2, u2⟩, l3, l4, l5, l6⟩
end UN
theorem op_units {c : Nat} (hc : c + 1 ≤ 1000) {σ : SC} {τ : SM} (h : RL c σ τ) (x : Int32) : okR (c + 1) σ (m_ST_units σ x) (k_Mo_units τ x) (m_Mo_units τ x) := by
  obtain ⟨A, hA⟩ := h
  have hA : RLA c A σ τ := hA
  have hb := (pgs_PV hA.1.2.2.1 hA.1.1.1.2.2.1).2.1
  unfold m_ST_units m_Mo_units k_Mo_units m_ST_needPart
  rcases qt_cases hA.1 x with ⟨b1, b2, b3⟩ | ⟨q, hq, rfl, b1, b2, b3⟩
  · rw [b1, b2, if_pos bf, if_pos bf, if_pos bf]
    exact okR_no ⟨b3, trivial⟩ rfl ((hA.th 1).up hc).rl
  · rw [b1, b2, if_neg bt, if_neg bt, if_neg bt]
    obtain ⟨τ', u1, u2, u3, u4, u5, u6⟩ := unitM_eq (hA.th 0) hq
    rw [u1]
    show okR (c + 1) σ (some (m_Parts_unitCount σ (nI q))) _ _
    rw [unitC_eq hA.1 hA.2.2.1 hb hq]
    exact okR_mk ⟨b3, u2, trivial⟩ u6 rfl (u4.up hc).rl
