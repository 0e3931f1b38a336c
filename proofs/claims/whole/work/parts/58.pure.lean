theorem xI_zI (σ : SC) (k i : Nat) (v : Int32) (k' i' : Nat) : xI (zI σ k i v) k' i' = if k' = k ∧ i' = i then v else xI σ k' i' := by
  by_cases e : k' = k
  · subst e; by_cases f : i' = i <;> simp [xI, zI, va_up, upd, f]
  · simp [xI, zI, va_up, e]
theorem xI_zn (σ : SC) (k : Nat) (v : Int32) : xI (zn σ k v) = xI σ := rfl
theorem xn_zn (σ : SC) (k : Nat) (v : Int32) (k' : Nat) : xn (zn σ k v) k' = if k' = k then v else xn σ k' := rfl
theorem xn_zI (σ : SC) (k i : Nat) (v : Int32) : xn (zI σ k i v) = xn σ := rfl
/-- the book's rows are these pages -/
def BK (σ : SC) (ps : List Pg) : Prop := xn σ 2 = nI ps.length ∧
  (∀ i s a b d, ps[i]? = some (s, a, b, d) → xI σ 0 i = nI s ∧ xI σ 1 i = a ∧ xI σ 2 i = b ∧ xI σ 3 i = nI d ∧ xI σ 4 i = nI ((ps.take i).countP (fun x => x.1 == s))) ∧
  (∀ s, s < 24 → xI σ 5 s = nI (ps.countP (fun x => x.1 == s)))
/-- only the book differs -/
def LSq (σ σ' : SC) : Prop := xL σ' = xL σ ∧ xo σ' = xo σ ∧ xa σ' = xa σ ∧ (∀ k, k ≠ 2 → xn σ' k = xn σ k)
theorem LSq_rfl (σ : SC) : LSq σ σ := ⟨rfl, rfl, rfl, fun _ _ => rfl⟩
theorem LSq.tr {a b c : SC} (h : LSq a b) (g : LSq b c) : LSq a c := ⟨g.1.trans h.1, g.2.1.trans h.2.1, g.2.2.1.trans h.2.2.1, fun k hk => (g.2.2.2 k hk).trans (h.2.2.2 k hk)⟩
theorem comings_eq {σ : SC} {s c : Nat} (hs : s < 24) (hc : c < 2 ^ 31) (h : xI σ 5 s = nI c) : m_Book_comingsOf σ (nI s) = nI c := by
  unfold m_Book_comingsOf
  rw [rd_in (j := 5) hs, h, if_neg (nI_pos hc)]
theorem addPage_eq {σ : SC} {n s c : Nat} (hn : n < 301) (hs : s < 24) (hc : c < 2 ^ 30) (h1 : xn σ 2 = nI n) (h2 : xI σ 5 s = nI c) (a b d : Int32) :
    m_Book_addPage σ (nI s) a b d = (nI n, zn (zI (zI (zI (zI (zI (zI σ 0 n (nI s)) 1 n a) 2 n b) 3 n d) 4 n (nI c)) 5 s (nI (c + 1))) 2 (nI (n + 1))) := by
  have w0 : ∀ (τ : SC) (v : Int32), m_ST_write τ 0 (nI n) v = zI τ 0 n v := fun τ v => wr_in (j := 0) hn
  have w1 : ∀ (τ : SC) (v : Int32), m_ST_write τ 1 (nI n) v = zI τ 1 n v := fun τ v => wr_in (j := 1) hn
  have w2 : ∀ (τ : SC) (v : Int32), m_ST_write τ 2 (nI n) v = zI τ 2 n v := fun τ v => wr_in (j := 2) hn
  have w3 : ∀ (τ : SC) (v : Int32), m_ST_write τ 3 (nI n) v = zI τ 3 n v := fun τ v => wr_in (j := 3) hn
  have w4 : ∀ (τ : SC) (v : Int32), m_ST_write τ 4 (nI n) v = zI τ 4 n v := fun τ v => wr_in (j := 4) hn
  have w5 : ∀ (τ : SC) (v : Int32), m_ST_write τ 5 (nI s) v = zI τ 5 s v := fun τ v => wr_in (j := 5) hs
  have c1 : m_Book_comingsOf (zI (zI (zI (zI σ 0 n (nI s)) 1 n a) 2 n b) 3 n d) (nI s) = nI c := comings_eq hs (by omega) (by simp [xI_zI, h2])
  have c2 : m_Book_comingsOf (zI (zI (zI (zI (zI σ 0 n (nI s)) 1 n a) 2 n b) 3 n d) 4 n (nI c)) (nI s) = nI c := comings_eq hs (by omega) (by simp [xI_zI, h2])
  unfold m_Book_addPage
  rw [h1]
  simp only [w0, w1, w2, w3, w4, w5, c1, c2, xn_zI, h1, nI_1]
theorem BK_add {σ : SC} {ps : List Pg} (h : BK σ ps) (hl : ps.length < 301) {s : Nat} (hs : s < 24) (a b : Int32) (d : Nat) :
    (m_Book_addPage σ (nI s) a b (nI d)).1 = nI ps.length ∧ BK (m_Book_addPage σ (nI s) a b (nI d)).2 (ps ++ [(s, a, b, d)]) ∧ LSq σ (m_Book_addPage σ (nI s) a b (nI d)).2 := by
  have hc : ps.countP (fun x => x.1 == s) < 2 ^ 30 := by
    have := List.countP_le_length (p := fun x : Pg => x.1 == s) (l := ps)
    omega
  rw [addPage_eq hl hs hc h.1 (h.2.2 s hs)]
  refine ⟨rfl, ⟨?_, ?_, ?_⟩, rfl, rfl, rfl, fun k hk => ?_⟩
  · rw [xn_zn, if_pos rfl, List.length_append]; rfl
  · intro i s' a' b' d' hi
    rw [xI_zn]
    simp only [xI_zI]
    rcases Nat.lt_trichotomy i ps.length with z | z | z
    · rw [List.getElem?_append_left z] at hi
      have hne : ¬ i = ps.length := by omega
      simp [hne]
      obtain ⟨g1, g2, g3, g4, g5⟩ := h.2.1 i s' a' b' d' hi
      refine ⟨g1, g2, g3, g4, ?_⟩
      rw [g5, List.take_append_of_le_length (by omega)]
    · subst z
      rw [List.getElem?_append_right (Nat.le_refl _)] at hi
      simp at hi
      obtain ⟨e1, e2, e3, e4⟩ := hi
      simp [e1, e2, e3, e4]
    · rw [List.getElem?_eq_none (by simp; omega)] at hi
      cases hi
  · intro s' hs'
    rw [xI_zn]
    simp only [xI_zI]
    rw [List.countP_append]
    by_cases e : s' = s
    · subst e
      simp
    · have hb : ¬ s = s' := fun z => e z.symm
      simp [e, hb]
      exact h.2.2 s' hs'
  · rw [xn_zn, if_neg hk]; rfl
section LAY
variable {ns np key : Nat} {al pa od cd rk : Nat → Nat} {pl : Nat → List Nat} {N : Nat → Int64}
theorem pl_chn (L : LL) {σ : SC} (hL : xL σ = L) (hR : R2 ns np key al pa od cd rk pl (L 2) (L 3) (L 4) N) {s : Nat} (hs : s < 24) : m_Sheets_firstOn σ (nI s) = hdI (pl s) := by
  unfold m_Sheets_firstOn m_Sheets_headOf
  show m_Row_at σ 4 (nI 60 + nI s) = _
  rw [nI_add, at_in (show 60 + s < 84 by omega), hL]
  exact chn_hd (hR.2.2.1 s hs).1
theorem pl_nxt (L : LL) {σ : SC} (hL : xL σ = L) (hR : R2 ns np key al pa od cd rk pl (L 2) (L 3) (L 4) N) {s p : Nat} (hs : s < 24) {x r : List Nat} (h : pl s = x ++ p :: r) : m_Sheets_nextOf σ (nI p) = hdI r := by
  have hp := (pl_al hR hs (show p ∈ pl s by rw [h]; simp)).1
  unfold m_Sheets_nextOf
  rw [at_in (show p < 84 by omega), hL]
  have hc := (hR.2.2.1 s hs).1
  rw [h] at hc
  exact chn_hd (chn_mid x hc)
theorem lay49 (L : LL) (hR : R2 ns np key al pa od cd rk pl (L 2) (L 3) (L 4) N) {σ : SC} (hL : xL σ = L) {ps : List Pg} (hB : BK σ ps) (hl : ps.length < 301) (K : SC → Int32 → Int32 → SC) (v2 : Int32) (Q : SC → Prop)
    (hK : ∀ σ' ps' st', BK σ' ps' → LSq σ σ' → stk rk pl ps' st' → ps'.length = ps.length + 1 → (∃ g s p t, st' = (g, s, p, [], pl s) :: t ∧ g = ps.length) → (∀ st, PG pl cd ps st = PG pl cd ps' st' → True) → ∀ R, PG pl cd ps' st' = R → (BK (K σ' (nI ps.length) (v2 + 1)) R ∧ LSq σ (K σ' (nI ps.length) (v2 + 1))) ) : ∀ (t : List Fr) (g s p : Nat) (pre r : List Nat) (f u : Nat), stk rk pl ps ((g, s, p, pre, r) :: t) → t.length < f → u + t.length < 24 →
    BK (lp_Book_lay_49 K f σ (nI g) v2 (hdI r) (nI u)) (PG pl cd ps ((g, s, p, pre, r) :: t)) ∧ LSq σ (lp_Book_lay_49 K f σ (nI g) v2 (hdI r) (nI u)) := by
  intro t
  induction t with
  | nil =>
    intro g s p pre r f u hS hf hu
    cases f with
    | zero => omega
    | succ f =>
      obtain ⟨k1, k2, k3, k4, ⟨a0, b0, k5⟩, -, kg⟩ := stk_hd hS
      unfold lp_Book_lay_49
      rw [if_neg (show ¬ (24 : Int32) ≤ nI u from nI_ge (b := 24) (by simp at hu; omega) (by decide))]
      cases r with
      | nil =>
        rw [if_pos (by rfl), kg rfl, if_pos (show nI 0 ≤ 0 by decide), if_pos (by rfl), PG_pop, PG_nil]
        exact ⟨hB, LSq_rfl σ⟩
      | cons q r =>
        obtain ⟨q1, q2, q3, q4, q5, q6, -⟩ := pl_al hR k2 (show q ∈ pl s by rw [k1]; simp)
        have c3 : ¬ hdI (q :: r) = -1 := nI_m1 (by omega)
        rw [if_neg c3, if_neg c3]
        have e1 : m_Sheets_sheetOf σ (hdI (q :: r)) = nI (cd q) := sheetOf_al (by rw [hL]; exact hR) q2
        have e2 : m_Book_depthAt σ (nI g) = nI 0 := by
          unfold m_Book_depthAt
          rw [rd_in (j := 3) (show g < 301 by omega), (hB.2.1 g s a0 b0 _ k5).2.2.2.1]; rfl
        rw [e1, e2, nI_1]
        show BK (K (m_Book_addPage σ (nI (cd q)) (nI q) (nI g) (nI 1)).2 (m_Book_addPage σ (nI (cd q)) (nI q) (nI g) (nI 1)).1 (v2 + 1)) _ ∧ LSq σ (K (m_Book_addPage σ (nI (cd q)) (nI q) (nI g) (nI 1)).2 (m_Book_addPage σ (nI (cd q)) (nI q) (nI g) (nI 1)).1 (v2 + 1))
        obtain ⟨b1, b2, b3⟩ := BK_add hB hl q4 (nI q) (nI g) 1
        rw [b1]
        exact hK _ _ _ b2 b3 (stk_push hS q1 q4 q5) (by simp) ⟨_, _, _, _, rfl, rfl⟩ (fun _ _ => trivial) _ (PG_push (pl := pl) (cd := cd) (st := []) hl).symm
  | cons f2 t ih =>
    intro g s p pre r f u hS hf hu
    obtain ⟨g2, s2, p2, pre2, r2⟩ := f2
    rw [List.length_cons] at hf hu
    cases f with
    | zero => omega
    | succ f =>
      obtain ⟨k1, k2, k3, k4, ⟨a0, b0, k5⟩, kg, -⟩ := stk_hd hS
      obtain ⟨-, -, -, -, -, m6, m7, ⟨x, m8⟩, m9⟩ := hS
      have hS' := m9
      unfold lp_Book_lay_49
      rw [if_neg (show ¬ (24 : Int32) ≤ nI u from nI_ge (b := 24) (by omega) (by decide))]
      cases r with
      | nil =>
        have hg0 : 0 < g := kg (by simp)
        rw [if_pos (by rfl), if_neg (show ¬ nI g ≤ 0 from nI_nle hg0 (by omega))]
        have e1 : m_Book_pageAbove σ (nI g) = nI g2 := by
          unfold m_Book_pageAbove
          rw [rd_in (j := 2) (show g < 301 by omega), (hB.2.1 g s _ _ _ m6).2.2.1]
        have e2 : m_Book_placementAt σ (nI g) = nI p := by
          unfold m_Book_placementAt
          rw [rd_in (j := 1) (show g < 301 by omega), (hB.2.1 g s _ _ _ m6).2.1]
        obtain ⟨n1, n2, -⟩ := stk_hd m9
        have e3 : m_Sheets_nextOf σ (nI p) = hdI r2 := pl_nxt L hL hR n2 (x := x) (by rw [n1, m8]; simp)
        rw [e1, e2, e3, nI_1, PG_pop]
        exact ih g2 s2 p2 pre2 r2 f (u + 1) hS' (by omega) (by omega)
      | cons q r =>
        obtain ⟨q1, q2, q3, q4, q5, q6, -⟩ := pl_al hR k2 (show q ∈ pl s by rw [k1]; simp)
        have c3 : ¬ hdI (q :: r) = -1 := nI_m1 (by omega)
        rw [if_neg c3, if_neg c3]
        have e1 : m_Sheets_sheetOf σ (hdI (q :: r)) = nI (cd q) := sheetOf_al (by rw [hL]; exact hR) q2
        have e2 : m_Book_depthAt σ (nI g) = nI (t.length + 1) := by
          unfold m_Book_depthAt
          rw [rd_in (j := 3) (show g < 301 by omega), (hB.2.1 g s _ _ _ m6).2.2.2.1]
        rw [e1, e2, nI_1]
        show BK (K (m_Book_addPage σ (nI (cd q)) (nI q) (nI g) (nI (t.length + 1 + 1))).2 (m_Book_addPage σ (nI (cd q)) (nI q) (nI g) (nI (t.length + 1 + 1))).1 (v2 + 1)) _ ∧ LSq σ (K (m_Book_addPage σ (nI (cd q)) (nI q) (nI g) (nI (t.length + 1 + 1))).2 (m_Book_addPage σ (nI (cd q)) (nI q) (nI g) (nI (t.length + 1 + 1))).1 (v2 + 1))
        obtain ⟨b1, b2, b3⟩ := BK_add hB hl q4 (nI q) (nI g) (t.length + 1 + 1)
        rw [b1]
        exact hK _ _ _ b2 b3 (stk_push (t := (g2, s2, p2, pre2, r2) :: t) ⟨k1, k2, k3, kg (by simp), k4, m6, m7, ⟨x, m8⟩, m9⟩ q1 q4 q5) (by simp) ⟨_, _, _, _, rfl, rfl⟩ (fun _ _ => trivial) _ (PG_push (pl := pl) (cd := cd) (st := (g2, s2, p2, pre2, r2) :: t) hl).symm
theorem lay26 (L : LL) (hR : R2 ns np key al pa od cd rk pl (L 2) (L 3) (L 4) N) : ∀ (n : Nat) (σ : SC) (ps : List Pg) (g s p : Nat) (t : List Fr), xL σ = L → BK σ ps → stk rk pl ps ((g, s, p, [], pl s) :: t) → g + 1 = ps.length → ps.length + n = 302 →
    BK (lp_Book_lay_26 n σ (nI g) (nI g)) (PG pl cd ps ((g, s, p, [], pl s) :: t)) ∧ LSq σ (lp_Book_lay_26 n σ (nI g) (nI g)) := by
  intro n
  induction n with
  | zero =>
    intro σ ps g s p t hL hB hS hg hn
    rw [PG_full (by omega)]
    exact ⟨hB, LSq_rfl σ⟩
  | succ n ih =>
    intro σ ps g s p t hL hB hS hg hn
    obtain ⟨k1, k2, k3, k4, ⟨a0, b0, k5⟩, -⟩ := stk_hd hS
    unfold lp_Book_lay_26
    by_cases c : 300 ≤ g
    · rw [if_pos (show (300 : Int32) ≤ nI g from nI_le (a := 300) c (by omega)), PG_full (by omega)]
      exact ⟨hB, LSq_rfl σ⟩
    · rw [if_neg (show ¬ (300 : Int32) ≤ nI g from nI_ge (b := 300) (by omega) (by decide))]
      have e1 : m_Book_sheetAt σ (nI g) = nI s := by
        unfold m_Book_sheetAt
        rw [rd_in (j := 0) (show g < 301 by omega), (hB.2.1 g s a0 b0 _ k5).1]
      rw [e1, pl_chn L hL hR k2]
      refine lay49 L hR hL hB (by omega) (lp_Book_lay_26 n) (nI g) (fun _ => True) ?_ t g s p [] (pl s) _ 0 hS (show t.length < 24 + 1 by omega) (by omega)
      intro σ' ps' st' B' LSq' S' l' hst _ R hRR
      obtain ⟨g', s', p', t', e, eg⟩ := hst
      subst e
      subst hRR
      rw [nI_1, hg, ← eg]
      obtain ⟨j1, j2⟩ := ih σ' ps' g' s' p' t' (LSq'.1.trans hL) B' S' (by omega) (by omega)
      exact ⟨j1, LSq'.tr j2⟩
theorem fill5 : ∀ (m i : Nat) (σ : SC) (j : Nat) (v : Int32), i + m = lnI j → (∀ i', xI (lp_Arrays_fillI_5 (m + 1) σ j v (nI i) (nI (lnI j))) j i' = if i ≤ i' ∧ i' < lnI j then v else xI σ j i') ∧ LSq σ (lp_Arrays_fillI_5 (m + 1) σ j v (nI i) (nI (lnI j))) ∧ (∀ j', j' ≠ j → xI (lp_Arrays_fillI_5 (m + 1) σ j v (nI i) (nI (lnI j))) j' = xI σ j') ∧ xn (lp_Arrays_fillI_5 (m + 1) σ j v (nI i) (nI (lnI j))) = xn σ
  | 0, i, σ, j, v, h => by
    have hj := lnI_lt j
    unfold lp_Arrays_fillI_5
    rw [if_pos (nI_le (by omega) (by omega))]
    exact ⟨fun i' => by rw [if_neg (by omega)], LSq_rfl σ, fun _ _ => rfl, rfl⟩
  | m + 1, i, σ, j, v, h => by
    have hj := lnI_lt j
    unfold lp_Arrays_fillI_5
    rw [if_neg (nI_ge (by omega) (by omega)), nI_1, nI_clamp (by omega)]
    obtain ⟨h1, h2, h3, h4⟩ := fill5 m (i + 1) (zI σ j i v) j v (by omega)
    refine ⟨fun i' => ?_, (show LSq σ (zI σ j i v) from ⟨rfl, rfl, rfl, fun _ _ => rfl⟩).tr h2, fun j' hj' => ?_, h4⟩
    · rw [h1, xI_zI]
      by_cases e : i' = i
      · subst e; rw [if_neg (by omega), if_pos ⟨rfl, rfl⟩, if_pos (by omega)]
      · rw [if_neg (show ¬ (j = j ∧ i' = i) from fun z => e z.2)]
        by_cases z : i ≤ i' ∧ i' < lnI j
        · rw [if_pos z, if_pos (by omega)]
        · rw [if_neg z, if_neg (by omega)]
    · rw [h3 j' hj']; funext i'; rw [xI_zI, if_neg (fun z => hj' z.1)]
theorem fill_eq (σ : SC) (j : Nat) (v : Int32) : (∀ i, i < lnI j → xI (m_Arrays_fillI σ j v) j i = v) ∧ LSq σ (m_Arrays_fillI σ j v) ∧ (∀ j', j' ≠ j → xI (m_Arrays_fillI σ j v) j' = xI σ j') ∧ xn (m_Arrays_fillI σ j v) = xn σ := by
  unfold m_Arrays_fillI
  rw [nI_clamp (lnI_lt j)]
  obtain ⟨h1, h2⟩ := fill5 (lnI j) 0 σ j v (by omega)
  exact ⟨fun i hi => by have := h1 i; rw [if_pos ⟨Nat.zero_le _, hi⟩] at this; exact this, h2⟩
/-- the class lays its pages -/
theorem lay_eq {σ : SC} (hR : R2 ns np key al pa od cd rk pl (xL σ 2) (xL σ 3) (xL σ 4) N) : BK (m_Book_lay σ) (pgs pl cd) ∧ LSq σ (m_Book_lay σ) := by
  unfold m_Book_lay
  have hf := fill_eq σ 5 0
  generalize m_Arrays_fillI σ 5 0 = F at hf ⊢
  obtain ⟨f1, f2, f3, f4⟩ := hf
  have B0 : BK (zn (F) 2 0) [] := by
    refine ⟨rfl, (fun i s a b d h => by simp at h), fun s hs => ?_⟩
    rw [xI_zn, f1 s hs]; rfl
  have l0 : LSq σ (zn (F) 2 0) := f2.tr ⟨rfl, rfl, rfl, fun k hk => by rw [xn_zn, if_neg hk]⟩
  obtain ⟨b1, b2, b3⟩ := BK_add B0 (by decide) (s := 0) (by decide) (-1) (-1) 0
  have l1 := l0.tr b3
  have ez : m_Book_addPage (zn (F) 2 0) 0 (-1) (-1) 0 = m_Book_addPage (zn (F) 2 0) (nI 0) (-1) (-1) (nI 0) := rfl
  rw [ez]
  generalize m_Book_addPage (zn (F) 2 0) (nI 0) (-1) (-1) (nI 0) = Z at b1 b2 b3 l1 ⊢
  have e301 : (300 : Int32).toNatClampNeg + 1 = 301 := by decide
  rw [e301]
  obtain ⟨j1, j2⟩ := lay26 (xL σ) hR 301 Z.2 _ 0 0 0 [] l1.1 b2 ⟨rfl, rfl, rfl, by simp, hR.2.2.2.1 0 (by decide)⟩ (by simp) (by simp)
  rw [nI_0] at j1 j2
  exact ⟨j1, l1.tr j2⟩
end LAY
