abbrev Pg : Type := Nat × Int32 × Int32 × Nat
/-- page, sheet, placement, children laid, children left -/
abbrev Fr : Type := Nat × Nat × Nat × List Nat × List Nat
def pm (pl : Nat → List Nat) (cd : Nat → Nat) : Nat → List Pg → List Fr → List Pg
  | 0, ps, _ => ps
  | _ + 1, ps, [] => ps
  | n + 1, ps, (_, _, _, _, []) :: st => pm pl cd n ps st
  | n + 1, ps, (g, s, p, pre, q :: r) :: st => if 301 ≤ ps.length then ps else pm pl cd n (ps ++ [(cd q, nI q, nI g, st.length + 1)]) ((ps.length, cd q, q, [], pl (cd q)) :: (g, s, p, pre ++ [q], r) :: st)
theorem pm_full {pl : Nat → List Nat} {cd : Nat → Nat} {ps : List Pg} (h : 301 ≤ ps.length) : ∀ (n : Nat) (st : List Fr), pm pl cd n ps st = ps
  | 0, _ => rfl
  | _ + 1, [] => rfl
  | n + 1, (_, _, _, _, []) :: st => pm_full h n st
  | n + 1, (g, s, p, pre, q :: r) :: st => if_pos h
def pmu (ps : List Pg) (st : List Fr) : Nat := 2 * (301 - ps.length) + st.length
theorem pm_fuel {pl : Nat → List Nat} {cd : Nat → Nat} : ∀ (n m : Nat) (ps : List Pg) (st : List Fr), pmu ps st < n → pmu ps st < m → pm pl cd n ps st = pm pl cd m ps st
  | 0, _, _, _, h, _ => by omega
  | _, 0, _, _, _, h => by omega
  | n + 1, m + 1, ps, [], _, _ => rfl
  | n + 1, m + 1, ps, (_, _, _, _, []) :: st, h1, h2 => by
    unfold pmu at h1 h2
    rw [List.length_cons] at h1 h2
    exact pm_fuel n m ps st (by unfold pmu; omega) (by unfold pmu; omega)
  | n + 1, m + 1, ps, (g, s, p, pre, q :: r) :: st, h1, h2 => by
    unfold pmu at h1 h2
    rw [List.length_cons] at h1 h2
    show (if 301 ≤ ps.length then ps else _) = (if 301 ≤ ps.length then ps else _)
    by_cases c : 301 ≤ ps.length
    · rw [if_pos c, if_pos c]
    · rw [if_neg c, if_neg c]
      apply pm_fuel
      · unfold pmu; simp only [List.length_append, List.length_cons, List.length_nil]; omega
      · unfold pmu; simp only [List.length_append, List.length_cons, List.length_nil]; omega
def PG (pl : Nat → List Nat) (cd : Nat → Nat) (ps : List Pg) (st : List Fr) : List Pg := pm pl cd (pmu ps st + 1) ps st
theorem PG_full {pl : Nat → List Nat} {cd : Nat → Nat} {ps : List Pg} {st : List Fr} (h : 301 ≤ ps.length) : PG pl cd ps st = ps := pm_full h _ _
theorem PG_nil {pl : Nat → List Nat} {cd : Nat → Nat} {ps : List Pg} : PG pl cd ps [] = ps := rfl
theorem PG_pop {pl : Nat → List Nat} {cd : Nat → Nat} {ps : List Pg} {g s p : Nat} {pre : List Nat} {st : List Fr} : PG pl cd ps ((g, s, p, pre, []) :: st) = PG pl cd ps st := by
  show pm pl cd (pmu ps (_ :: st)) ps st = _
  exact pm_fuel _ _ ps st (by unfold pmu; rw [List.length_cons]; omega) (by omega)
theorem PG_push {pl : Nat → List Nat} {cd : Nat → Nat} {ps : List Pg} {g s p q : Nat} {pre r : List Nat} {st : List Fr} (h : ps.length < 301) : PG pl cd ps ((g, s, p, pre, q :: r) :: st) = PG pl cd (ps ++ [(cd q, nI q, nI g, st.length + 1)]) ((ps.length, cd q, q, [], pl (cd q)) :: (g, s, p, pre ++ [q], r) :: st) := by
  show (if 301 ≤ ps.length then ps else pm pl cd (pmu ps (_ :: st)) _ _) = _
  rw [if_neg (by omega)]
  exact pm_fuel _ _ _ _ (by unfold pmu; simp only [List.length_append, List.length_cons, List.length_nil]; omega) (by omega)
/-- the pages of a book -/
def pgs (pl : Nat → List Nat) (cd : Nat → Nat) : List Pg := PG pl cd [(0, -1, -1, 0)] [(0, 0, 0, [], pl 0)]
/-- what a stack of frames knows -/
def stk (rk : Nat → Nat) (pl : Nat → List Nat) (ps : List Pg) : List Fr → Prop
  | [] => True
  | (g, s, _, pre, r) :: [] => pl s = pre ++ r ∧ g = 0 ∧ s = 0 ∧ ps[0]? = some ((0 : Nat), (-1 : Int32), (-1 : Int32), (0 : Nat)) ∧ rk s < 24
  | (g, s, p, pre, r) :: (g2, s2, p2, pre2, r2) :: t => pl s = pre ++ r ∧ s < 24 ∧ rk s + (t.length + 1) < 24 ∧ 0 < g ∧ g < ps.length ∧ ps[g]? = some (s, nI p, nI g2, t.length + 1) ∧ p < 60 ∧ (∃ x, pre2 = x ++ [p]) ∧ stk rk pl ps ((g2, s2, p2, pre2, r2) :: t)
theorem stk_app {rk : Nat → Nat} {pl : Nat → List Nat} {ps : List Pg} {x : List Pg} : ∀ {st : List Fr}, stk rk pl ps st → stk rk pl (ps ++ x) st
  | [], _ => trivial
  | (g, s, p, pre, r) :: [], h => ⟨h.1, h.2.1, h.2.2.1, by
      have := h.2.2.2.1
      have hl : 0 < ps.length := by
        cases ps with
        | nil => cases this
        | cons => simp
      rw [List.getElem?_append_left hl]; exact this, h.2.2.2.2⟩
  | (g, s, p, pre, r) :: (g2, s2, p2, pre2, r2) :: t, h => by
    obtain ⟨h1, h2, h3, h4, h5, h6, h7, h8, h9⟩ := h
    exact ⟨h1, h2, h3, h4, by rw [List.length_append]; omega, by rw [List.getElem?_append_left h5]; exact h6, h7, h8, stk_app h9⟩
theorem stk_tl {rk : Nat → Nat} {pl : Nat → List Nat} {ps : List Pg} {f : Fr} {t : List Fr} (h : stk rk pl ps (f :: t)) : stk rk pl ps t := by
  obtain ⟨g, s, p, pre, r⟩ := f
  cases t with
  | nil => trivial
  | cons f2 t => obtain ⟨g2, s2, p2, pre2, r2⟩ := f2; exact h.2.2.2.2.2.2.2.2
theorem stk_hd {rk : Nat → Nat} {pl : Nat → List Nat} {ps : List Pg} {g s p : Nat} {pre r : List Nat} {t : List Fr} (h : stk rk pl ps ((g, s, p, pre, r) :: t)) : pl s = pre ++ r ∧ s < 24 ∧ rk s + t.length < 24 ∧ g < ps.length ∧ (∃ a b, ps[g]? = some (s, a, b, t.length)) ∧ (t ≠ [] → 0 < g) ∧ (t = [] → g = 0) := by
  cases t with
  | nil =>
    obtain ⟨h1, h2, h3, h4, h5⟩ := h
    subst h2 h3
    refine ⟨h1, by omega, h5, ?_, ⟨_, _, h4⟩, fun z => absurd rfl z, fun _ => rfl⟩
    cases ps with
    | nil => cases h4
    | cons => simp
  | cons f2 t =>
    obtain ⟨g2, s2, p2, pre2, r2⟩ := f2
    obtain ⟨h1, h2, h3, h4, h5, h6, h7, h8, h9⟩ := h
    exact ⟨h1, h2, h3, h5, ⟨_, _, h6⟩, fun _ => h4, fun z => by cases z⟩
/-- a page is laid -/
theorem stk_push {rk : Nat → Nat} {pl : Nat → List Nat} {cd : Nat → Nat} {ps : List Pg} {g s p q : Nat} {pre r : List Nat} {t : List Fr} (h : stk rk pl ps ((g, s, p, pre, q :: r) :: t)) (hq : q < 60) (hc : cd q < 24) (hr : rk (cd q) < rk s) : stk rk pl (ps ++ [(cd q, nI q, nI g, t.length + 1)]) ((ps.length, cd q, q, [], pl (cd q)) :: (g, s, p, pre ++ [q], r) :: t) := by
  obtain ⟨h1, h2, h3, h4, -⟩ := stk_hd h
  refine ⟨rfl, hc, by omega, by omega, by simp, by simp, hq, ⟨pre, rfl⟩, ?_⟩
  apply stk_app
  cases t with
  | nil => exact ⟨by rw [h1]; simp, h.2⟩
  | cons f2 t =>
    obtain ⟨g2, s2, p2, pre2, r2⟩ := f2
    exact ⟨by rw [h1]; simp, h.2⟩
