/-! what all pages of a book keep -/
theorem pm_ind {pl : Nat → List Nat} {cd : Nat → Nat} (I : List Pg → List Fr → Prop)
    (hpop : ∀ ps g s p pre t, I ps ((g, s, p, pre, []) :: t) → I ps t)
    (hpush : ∀ ps g s p pre q r t, ps.length < 301 → I ps ((g, s, p, pre, q :: r) :: t) → I (ps ++ [(cd q, nI q, nI g, t.length + 1)]) ((ps.length, cd q, q, [], pl (cd q)) :: (g, s, p, pre ++ [q], r) :: t)) :
    ∀ (n : Nat) (ps : List Pg) (st : List Fr), I ps st → ∃ st', I (pm pl cd n ps st) st'
  | 0, _, st, h => ⟨st, h⟩
  | _ + 1, _, [], h => ⟨[], h⟩
  | n + 1, ps, (g, s, p, pre, []) :: st, h => pm_ind I hpop hpush n ps st (hpop _ _ _ _ _ _ h)
  | n + 1, ps, (g, s, p, pre, q :: r) :: st, h => by
    show ∃ st', I (if 301 ≤ ps.length then ps else _) st'
    by_cases c : 301 ≤ ps.length
    · rw [if_pos c]; exact ⟨_, h⟩
    · rw [if_neg c]; exact pm_ind I hpop hpush n _ _ (hpush _ _ _ _ _ _ _ _ (by omega) h)
def PV (ns : Nat) (al cd : Nat → Nat) (ps : List Pg) : Prop := ∀ i s a b d, ps[i]? = some (s, a, b, d) → s < ns ∧ d < 24 ∧
  ((i = 0 ∧ a = -1 ∧ b = -1 ∧ d = 0 ∧ s = 0) ∨ (0 < i ∧ ∃ p g s2 a2 b2 d2, a = nI p ∧ p < 60 ∧ al p ≠ 0 ∧ b = nI g ∧ g < i ∧ ps[g]? = some (s2, a2, b2, d2) ∧ d = d2 + 1 ∧ s = cd p))
section PVS
variable {ns np key : Nat} {al pa od cd rk : Nat → Nat} {pl : Nat → List Nat} {L2 L3 L4 N : Nat → Int64}
theorem pgs_PV (hR : R2 ns np key al pa od cd rk pl L2 L3 L4 N) (hns : 0 < ns) : PV ns al cd (pgs pl cd) ∧ (pgs pl cd).length ≤ 301 ∧ (pgs pl cd)[0]? = some ((0 : Nat), (-1 : Int32), (-1 : Int32), (0 : Nat)) := by
  unfold pgs PG
  obtain ⟨st', h⟩ := pm_ind (pl := pl) (cd := cd) (fun ps st => stk rk pl ps st ∧ PV ns al cd ps ∧ ps.length ≤ 301 ∧ ps[0]? = some ((0 : Nat), (-1 : Int32), (-1 : Int32), (0 : Nat)))
    (fun ps g s p pre t h => ⟨stk_tl h.1, h.2⟩) (fun ps g s p pre q r t hl h => by
      obtain ⟨h1, h2, h3, h4⟩ := h
      obtain ⟨k1, k2, k3, k4, ⟨a0, b0, k5⟩, -⟩ := stk_hd h1
      obtain ⟨q1, q2, q3, q4, q5, q6, q7⟩ := pl_al hR k2 (show q ∈ pl s by rw [k1]; simp)
      refine ⟨stk_push h1 q1 q4 q5, ?_, by simp; omega, by rw [List.getElem?_append_left (by omega)]; exact h4⟩
      intro i s' a' b' d' hi
      rcases Nat.lt_trichotomy i ps.length with z | z | z
      · rw [List.getElem?_append_left z] at hi
        obtain ⟨y1, y2, y3⟩ := h2 i s' a' b' d' hi
        refine ⟨y1, y2, ?_⟩
        rcases y3 with y | ⟨yi, p2, g2, s2, a2, b2, d2, e1, e2, e3, e4, e5, e6, e7⟩
        · exact Or.inl y
        · exact Or.inr ⟨yi, p2, g2, s2, a2, b2, d2, e1, e2, e3, e4, e5, by rw [List.getElem?_append_left (by omega)]; exact e6, e7⟩
      · subst z
        rw [List.getElem?_append_right (Nat.le_refl _)] at hi
        simp at hi
        obtain ⟨e1, e2, e3, e4⟩ := hi
        subst e1 e2 e3 e4
        refine ⟨q7, by omega, Or.inr ⟨by omega, q, g, s, a0, b0, t.length, rfl, q1, q2, rfl, k4, by rw [List.getElem?_append_left k4]; exact k5, rfl, rfl⟩⟩
      · rw [List.getElem?_eq_none (by simp; omega)] at hi
        cases hi) (pmu [(0, -1, -1, 0)] [(0, 0, 0, [], pl 0)] + 1) [(0, -1, -1, 0)] [(0, 0, 0, [], pl 0)] (by
      refine ⟨⟨rfl, rfl, rfl, rfl, hR.2.2.2.1 0 (by decide)⟩, ?_, by simp, rfl⟩
      intro i s a b d hi
      cases i with
      | zero =>
        simp at hi
        obtain ⟨e1, e2, e3, e4⟩ := hi
        subst e1 e2 e3 e4
        exact ⟨hns, by decide, Or.inl ⟨rfl, rfl, rfl, rfl, rfl⟩⟩
      | succ i => simp at hi)
  exact h.2
end PVS
/-- a book that the changed sheets aren't in -/
theorem pm_congr {pl pl' : Nat → List Nat} {cd cd' : Nat → Nat} {ns : Nat} (h1 : ∀ s, s < ns → pl' s = pl s) (h2 : ∀ s, s < ns → ∀ q ∈ pl s, cd' q = cd q ∧ cd q < ns) : ∀ (n : Nat) (ps : List Pg) (st : List Fr), (∀ f ∈ st, ∀ q ∈ f.2.2.2.2, cd' q = cd q ∧ cd q < ns) → pm pl' cd' n ps st = pm pl cd n ps st
  | 0, _, _, _ => rfl
  | _ + 1, _, [], _ => rfl
  | n + 1, ps, (g, s, p, pre, []) :: st, h => pm_congr h1 h2 n ps st fun f hf => h f (List.mem_cons_of_mem _ hf)
  | n + 1, ps, (g, s, p, pre, q :: r) :: st, h => by
    show (if 301 ≤ ps.length then ps else _) = (if 301 ≤ ps.length then ps else _)
    have hq := h _ List.mem_cons_self q (by simp)
    by_cases c : 301 ≤ ps.length
    · rw [if_pos c, if_pos c]
    · rw [if_neg c, if_neg c, hq.1, h1 _ hq.2]
      apply pm_congr h1 h2
      intro f hf
      rcases List.mem_cons.mp hf with e | hf
      · subst e; exact h2 _ hq.2
      · rcases List.mem_cons.mp hf with e | hf
        · subst e; exact fun q' hq' => h _ List.mem_cons_self q' (List.mem_cons_of_mem _ hq')
        · exact h f (List.mem_cons_of_mem _ hf)
theorem pgs_congr {pl pl' : Nat → List Nat} {cd cd' : Nat → Nat} {ns : Nat} (h0 : 0 < ns) (h1 : ∀ s, s < ns → pl' s = pl s) (h2 : ∀ s, s < ns → ∀ q ∈ pl s, cd' q = cd q ∧ cd q < ns) : pgs pl' cd' = pgs pl cd := by
  unfold pgs PG
  rw [h1 0 h0]
  apply pm_congr h1 h2
  intro f hf
  rw [List.mem_singleton.mp hf]
  exact h2 0 h0
/-! how many pages there are -/
def sz (pl : Nat → List Nat) (cd : Nat → Nat) : Nat → Nat → Nat
  | 0, _ => 1
  | d + 1, s => 1 + ((pl s).map fun q => sz pl cd d (cd q)).sum
theorem sum_congr {f g : Nat → Nat} : ∀ {l : List Nat}, (∀ q ∈ l, f q = g q) → (l.map f).sum = (l.map g).sum
  | [], _ => rfl
  | a :: l, h => by
    simp only [List.map_cons, List.sum_cons]
    rw [h a List.mem_cons_self, sum_congr fun q hq => h q (List.mem_cons_of_mem _ hq)]
theorem sum_filter {f g : Nat → Nat} {c : Nat → Bool} : ∀ {l : List Nat}, (∀ q ∈ l, f q ≤ g q) → ((l.filter c).map f).sum ≤ (l.map g).sum
  | [], _ => Nat.le_refl _
  | a :: l, h => by
    have h1 := h a List.mem_cons_self
    have h2 := sum_filter (c := c) fun q hq => h q (List.mem_cons_of_mem a hq)
    rw [List.filter_cons]
    split
    · simp only [List.map_cons, List.sum_cons]; omega
    · simp only [List.map_cons, List.sum_cons]; omega
section SZ
variable {rk : Nat → Nat} {pl : Nat → List Nat} {cd : Nat → Nat}
theorem sz_stab (hr : ∀ s, s < 24 → ∀ q ∈ pl s, cd q < 24 ∧ rk (cd q) < rk s) : ∀ (d s : Nat), s < 24 → rk s ≤ d → sz pl cd (d + 1) s = sz pl cd d s
  | 0, s, hs, h => by
    have : pl s = [] := by
      cases e : pl s with
      | nil => rfl
      | cons q r => have := hr s hs q (by rw [e]; simp); omega
    show 1 + _ = 1
    rw [this]; rfl
  | d + 1, s, hs, h => by
    show 1 + ((pl s).map fun q => sz pl cd (d + 1) (cd q)).sum = 1 + ((pl s).map fun q => sz pl cd d (cd q)).sum
    rw [sum_congr fun q hq => sz_stab hr d (cd q) (hr s hs q hq).1 (by have := (hr s hs q hq).2; omega)]
theorem sz_eq (hr : ∀ s, s < 24 → ∀ q ∈ pl s, cd q < 24 ∧ rk (cd q) < rk s) (hb : ∀ s, s < 24 → rk s < 24) {s : Nat} (hs : s < 24) : sz pl cd 24 s = 1 + ((pl s).map fun q => sz pl cd 24 (cd q)).sum :=
  (sz_stab hr 24 s hs (by have := hb s hs; omega)).symm
def tsz (pl : Nat → List Nat) (cd : Nat → Nat) (st : List Fr) : Nat := (st.map fun f => (f.2.2.2.2.map fun q => sz pl cd 24 (cd q)).sum).sum
theorem pm_len (hr : ∀ s, s < 24 → ∀ q ∈ pl s, cd q < 24 ∧ rk (cd q) < rk s) (hb : ∀ s, s < 24 → rk s < 24) : ∀ (n : Nat) (ps : List Pg) (st : List Fr), ps.length ≤ 301 → pmu ps st < n → (∀ f ∈ st, ∀ q ∈ f.2.2.2.2, cd q < 24) → (pm pl cd n ps st).length = min 301 (ps.length + tsz pl cd st)
  | 0, _, _, _, h, _ => by omega
  | _ + 1, ps, [], hl, _, _ => by show ps.length = min 301 (ps.length + 0); omega
  | n + 1, ps, (g, s, p, pre, []) :: st, hl, hn, h => by
    have e : pm pl cd (n + 1) ps ((g, s, p, pre, []) :: st) = pm pl cd n ps st := rfl
    rw [e, pm_len hr hb n ps st hl (by unfold pmu at hn ⊢; rw [List.length_cons] at hn; omega) fun f hf => h f (List.mem_cons_of_mem _ hf)]
    simp [tsz]
  | n + 1, ps, (g, s, p, pre, q :: r) :: st, hl, hn, h => by
    have e : pm pl cd (n + 1) ps ((g, s, p, pre, q :: r) :: st) = if 301 ≤ ps.length then ps else pm pl cd n (ps ++ [(cd q, nI q, nI g, st.length + 1)]) ((ps.length, cd q, q, [], pl (cd q)) :: (g, s, p, pre ++ [q], r) :: st) := rfl
    rw [e]
    have hq := h _ List.mem_cons_self q (by simp)
    by_cases c : 301 ≤ ps.length
    · rw [if_pos c]; omega
    · rw [if_neg c, pm_len hr hb n _ _ (by simp; omega) (by unfold pmu at hn ⊢; simp only [List.length_append, List.length_cons, List.length_nil] at hn ⊢; omega) (fun f hf => by
        rcases List.mem_cons.mp hf with e | hf
        · subst e; exact fun q' hq' => (hr _ hq q' hq').1
        · rcases List.mem_cons.mp hf with e | hf
          · subst e; exact fun q' hq' => h _ List.mem_cons_self q' (List.mem_cons_of_mem _ hq')
          · exact h f (List.mem_cons_of_mem _ hf))]
      simp only [tsz, List.map_cons, List.sum_cons, List.length_append, List.length_cons, List.length_nil]
      rw [sz_eq hr hb hq]
      omega
theorem pgs_len (hr : ∀ s, s < 24 → ∀ q ∈ pl s, cd q < 24 ∧ rk (cd q) < rk s) (hb : ∀ s, s < 24 → rk s < 24) : (pgs pl cd).length = min 301 (sz pl cd 24 0) := by
  unfold pgs PG
  rw [pm_len hr hb _ _ _ (by simp) (by omega) (fun f hf => by rw [List.mem_singleton.mp hf]; exact fun q hq => (hr 0 (by decide) q hq).1), sz_eq hr hb (by decide)]
  simp [tsz]
theorem sz_mono {pl' : Nat → List Nat} {c : Nat → Bool} (h : ∀ s, pl' s = (pl s).filter c) : ∀ (d s : Nat), sz pl' cd d s ≤ sz pl cd d s
  | 0, _ => Nat.le_refl _
  | d + 1, s => by
    show 1 + _ ≤ 1 + _
    rw [h s]
    have := sum_filter (c := c) (l := pl s) fun q _ => sz_mono h d (cd q)
    omega
end SZ
