theorem yI_wI (τ : SM) (k i : Nat) (v : Int32) (k' i' : Nat) : yI (wI τ k i v) k' i' = if k' = k ∧ i' = i then v else yI τ k' i' := by
  by_cases e : k' = k
  · subst e; by_cases f : i' = i <;> simp [yI, wI, va_up, upd, f]
  · simp [yI, wI, va_up, e]
theorem yL_wL (τ : SM) (k i : Nat) (v : Int64) (k' i' : Nat) : yL (wL τ k i v) k' i' = if k' = k ∧ i' = i then v else yL τ k' i' := by
  by_cases e : k' = k
  · subst e; by_cases f : i' = i <;> simp [yL, wL, va_up, vp_updL, f]
  · simp [yL, wL, va_up, e]
theorem yL_wLn (τ : SM) (k i : Nat) (v : Int64) {k' : Nat} (h : k' ≠ k) : yL (wL τ k i v) k' = yL τ k' := by simp [yL, wL, va_up, h]
theorem yI_wL (τ : SM) (k i : Nat) (v : Int64) : yI (wL τ k i v) = yI τ := rfl
theorem yn_wL (τ : SM) (k i : Nat) (v : Int64) : yn (wL τ k i v) = yn τ := rfl
theorem yL_wI (τ : SM) (k i : Nat) (v : Int32) : yL (wI τ k i v) = yL τ := rfl
theorem yn_wI (τ : SM) (k i : Nat) (v : Int32) : yn (wI τ k i v) = yn τ := rfl
theorem yL_wn (τ : SM) (k : Nat) (v : Int32) : yL (wn τ k v) = yL τ := rfl
theorem yI_wn (τ : SM) (k : Nat) (v : Int32) : yI (wn τ k v) = yI τ := rfl
theorem yn_wn (τ : SM) (k : Nat) (v : Int32) (k' : Nat) : yn (wn τ k v) k' = if k' = k then v else yn τ k' := rfl
theorem yL_wf (τ : SM) (b : Bool) : yL (wf τ b) = yL τ := rfl
theorem yI_wf (τ : SM) (b : Bool) : yI (wf τ b) = yI τ := rfl
theorem yn_wf (τ : SM) (b : Bool) : yn (wf τ b) = yn τ := rfl
/-- the reference's rows are these pages -/
def PR (τ : SM) (ps : List Pg) : Prop := yn τ 4 = nI ps.length ∧ ∀ i s a b d, ps[i]? = some (s, a, b, d) → yI τ 0 i = nI s ∧ yI τ 1 i = a ∧ yI τ 2 i = b ∧ yI τ 3 i = nI d
def SR (od : Nat → Nat) (τ : SM) : List Fr → Prop
  | [] => True
  | (g, _, _, pre, _) :: t => yI τ 5 t.length = nI g ∧ yL τ 3 t.length = kyo od pre ∧ SR od τ t
/-- only rows for the pages differ -/
def TM (τ τ' : SM) : Prop := yL τ' 0 = yL τ 0 ∧ yL τ' 1 = yL τ 1 ∧ yL τ' 2 = yL τ 2 ∧ (∀ k, k ≠ 4 → yn τ' k = yn τ k) ∧ yp τ' = yp τ
theorem TM.tr {a b c : SM} (h : TM a b) (g : TM b c) : TM a c := ⟨g.1.trans h.1, g.2.1.trans h.2.1, g.2.2.1.trans h.2.2.1, fun k hk => (g.2.2.2.1 k hk).trans (h.2.2.2.1 k hk), g.2.2.2.2.trans h.2.2.2.2⟩
theorem TM_rfl (τ : SM) : TM τ τ := ⟨rfl, rfl, rfl, fun _ _ => rfl, rfl⟩
theorem PR_add {τ : SM} {ps : List Pg} (h : PR τ ps) (hl : ps.length < 301) (s : Nat) (a b : Int32) (d : Nat) : PR (m_Mo_addPage τ (nI s) a b (nI d)) (ps ++ [(s, a, b, d)]) ∧ TM τ (m_Mo_addPage τ (nI s) a b (nI d)) ∧ yL (m_Mo_addPage τ (nI s) a b (nI d)) = yL τ ∧ yI (m_Mo_addPage τ (nI s) a b (nI d)) 5 = yI τ 5 ∧ k_Mo_addPage τ (nI s) a b (nI d) := by
  have hv : vp_in (nI ps.length) 301 := vp_in_nI hl (by decide)
  refine ⟨⟨?_, ?_⟩, ⟨rfl, rfl, rfl, fun k hk => ?_, rfl⟩, rfl, ?_, ?_⟩
  · unfold m_Mo_addPage
    rw [yn_wn, if_pos rfl, h.1, nI_1, List.length_append]; rfl
  · intro i s' a' b' d' hi
    unfold m_Mo_addPage
    rw [yI_wn, h.1, nI_clamp (by omega)]
    simp only [yI_wI]
    rcases Nat.lt_trichotomy i ps.length with z | z | z
    · rw [List.getElem?_append_left z] at hi
      have hne : ¬ i = ps.length := by omega
      simp [hne]
      exact h.2 i s' a' b' d' hi
    · subst z
      rw [List.getElem?_append_right (Nat.le_refl _)] at hi
      simp at hi
      obtain ⟨e1, e2, e3, e4⟩ := hi
      simp [e1, e2, e3, e4]
    · rw [List.getElem?_eq_none (by simp; omega)] at hi
      cases hi
  · unfold m_Mo_addPage; rw [yn_wn, if_neg hk]; rfl
  · unfold m_Mo_addPage; rw [yI_wn]; funext i; simp [yI_wI]
  · unfold k_Mo_addPage; rw [h.1]; exact ⟨hv, hv, hv, hv, trivial⟩
def wS : List Fr → Int32
  | [] => -1
  | _ :: t => nI t.length
theorem wS_pop (f : Fr) : ∀ (t : List Fr), wS (f :: t) + (-1) = wS t
  | [] => show nI 0 + (-1) = -1 by decide
  | _ :: t => pk_m1 t.length
section TU
variable {ns np key : Nat} {al pa od cd rk : Nat → Nat} {pl : Nat → List Nat} {L2 L3 L4 : Nat → Int64}
theorem pl_al {N : Nat → Int64} (hR : R2 ns np key al pa od cd rk pl L2 L3 L4 N) {s q : Nat} (hs : s < 24) (hq : q ∈ pl s) : q < 60 ∧ al q ≠ 0 ∧ pa q = s ∧ cd q < 24 ∧ rk (cd q) < rk s ∧ q < np ∧ cd q < ns := by
  obtain ⟨z1, z2, z3⟩ := ((hR.2.2.1 s hs).2.1 q).mp hq
  have h := hR.1 q z1 z2
  have := hR.2.2.2.2.2.1
  refine ⟨z1, z2, z3, by omega, ?_, h.1, h.2.2.1⟩
  have := h.2.2.2.2.1
  rw [z3] at this; exact this
theorem turn_loop : ∀ (n : Nat) (τ : SM) (ps : List Pg) (st : List Fr), R2 ns np key al pa od cd rk pl L2 L3 L4 (yL τ 0) → yL τ 0 1 = lN np → PR τ ps → SR od τ st → stk rk pl ps st → ps.length ≤ 301 → pmu ps st < n →
    ∃ τ', lp_Mo_turn_31 n τ (wS st) = wf τ' true ∧ kl_Mo_turn_31 n τ (wS st) ∧ PR τ' (PG pl cd ps st) ∧ TM τ τ' := by
  intro n
  induction n with
  | zero => intro τ ps st _ _ _ _ _ _ h; omega
  | succ n ih =>
    intro τ ps st hR h1 hP hS hK hl hn
    unfold lp_Mo_turn_31 kl_Mo_turn_31
    cases st with
    | nil =>
      have c : wS [] < 0 := by decide
      rw [if_pos c, if_pos c]
      exact ⟨τ, rfl, trivial, hP, TM_rfl τ⟩
    | cons f t =>
      obtain ⟨g, s, p, pre, r⟩ := f
      obtain ⟨k1, k2, k3, k4, ⟨a0, b0, k5⟩, -⟩ := stk_hd hK
      have c : ¬ wS ((g, s, p, pre, r) :: t) < 0 := nI_pos (show t.length < 2 ^ 31 by omega)
      rw [if_neg c, if_neg c, hP.1]
      by_cases c2 : (300 : Int32) < nI ps.length
      · rw [if_pos c2, if_pos c2]
        have : 300 < ps.length := (nI_ltI (a := 300) (by decide) (by omega)).mp c2
        rw [PG_full (by omega)]
        exact ⟨τ, rfl, trivial, hP, TM_rfl τ⟩
      · have hl2 : ps.length < 301 := by
          have : ¬ 300 < ps.length := fun z => c2 (nI_lt (a := 300) z (by omega))
          omega
        rw [if_neg c2, if_neg c2]
        have hw : (wS ((g, s, p, pre, r) :: t)).toNatClampNeg = t.length := nI_clamp (by omega)
        obtain ⟨s1, s2, s3⟩ := hS
        have hg : (nI g).toNatClampNeg = g := nI_clamp (by omega)
        have hsh : yI τ 0 g = nI s := (hP.2 g s a0 b0 _ k5).1
        obtain ⟨x1, x2⟩ := next_eq hR h1 k2 k1
        rw [hw, s1, hg, hsh, s2, x1]
        have v1 : vp_in (wS ((g, s, p, pre, r) :: t)) 64 := vp_in_nI (show t.length < 64 by omega) (by decide)
        cases r with
        | nil =>
          have c3 : hdI [] = -1 := rfl
          rw [if_pos c3, if_pos c3, wS_pop]
          obtain ⟨τ', i1, i2, i3, i4⟩ := ih τ ps t hR h1 hP s3 (stk_tl hK) hl (by unfold pmu at hn ⊢; rw [List.length_cons] at hn; omega)
          rw [PG_pop]
          exact ⟨τ', i1, ⟨v1, vp_in_nI (show g < 301 by omega) (by decide), v1, x2, i2⟩, i3, i4⟩
        | cons q r =>
          obtain ⟨q1, q2, q3, q4, q5, q6, -⟩ := pl_al hR k2 (show q ∈ pl s by rw [k1]; simp)
          have c3 : ¬ hdI (q :: r) = -1 := nI_m1 (by omega)
          rw [if_neg c3, if_neg c3]
          show ∃ τ', _ ∧ _ ∧ _
          have eh : hdI (q :: r) = nI q := rfl
          have e152 : ((152 : Int32) + nI q).toNatClampNeg = 152 + q := clA 152 (by omega)
          have e92 : ((92 : Int32) + nI q).toNatClampNeg = 92 + q := clA 92 (by omega)
          obtain ⟨g1, g2, g3, -⟩ := alM hR q1 q2
          have ew : wS ((g, s, p, pre, q :: r) :: t) + 1 = nI (t.length + 1) := nI_1 _
          have ew2 : (nI (t.length + 1)).toNatClampNeg = t.length + 1 := nI_clamp (by omega)
          rw [eh, e152, e92, ew, ew2, g1]
          have e0 : ∀ v, yL (wL τ 3 t.length v) 0 = yL τ 0 := fun v => yL_wLn τ 3 _ v (by decide)
          rw [e0, g3, lN_i]
          have hP1 : PR (wL τ 3 t.length (lN (od q))) ps := hP
          obtain ⟨a1, a2, a3, a4, a5⟩ := PR_add hP1 hl2 (cd q) (nI q) (nI g) (t.length + 1)
          have T1 : TM τ (wL τ 3 t.length (lN (od q))) := ⟨yL_wLn τ 3 _ _ (by decide), yL_wLn τ 3 _ _ (by decide), yL_wLn τ 3 _ _ (by decide), fun _ _ => rfl, rfl⟩
          have T2 := T1.tr a2
          generalize hτ2 : m_Mo_addPage (wL τ 3 t.length (lN (od q))) (nI (cd q)) (nI q) (nI g) (nI (t.length + 1)) = τ2 at a1 a2 a3 a4 T2 ⊢
          have e4 : yn τ2 4 - 1 = nI ps.length := by
            rw [a1.1, List.length_append]
            exact nI_pred ps.length
          rw [e4]
          have T3 : TM τ2 (wL (wI τ2 5 (t.length + 1) (nI ps.length)) 3 (t.length + 1) (-1)) := ⟨yL_wLn _ 3 _ _ (by decide), yL_wLn _ 3 _ _ (by decide), yL_wLn _ 3 _ _ (by decide), fun _ _ => rfl, rfl⟩
          have P3 : PR (wL (wI τ2 5 (t.length + 1) (nI ps.length)) 3 (t.length + 1) (-1)) (ps ++ [(cd q, nI q, nI g, t.length + 1)]) := by
            refine ⟨a1.1, fun i s' a' b' d' hi => ?_⟩
            rw [yI_wL]
            simp only [yI_wI]
            simpa using a1.2 i s' a' b' d' hi
          have srt : ∀ (u : List Fr), u.length ≤ t.length → SR od τ u → SR od (wL (wI τ2 5 (t.length + 1) (nI ps.length)) 3 (t.length + 1) (-1)) u := by
            intro u
            induction u with
            | nil => intro _ _; trivial
            | cons f u iu =>
              obtain ⟨gg, ss, pp, ee, rr⟩ := f
              intro hu hh
              rw [List.length_cons] at hu
              refine ⟨?_, ?_, iu (by omega) hh.2.2⟩
              · rw [yI_wL, yI_wI, if_neg (by omega), a4]
                exact hh.1
              · rw [yL_wL, if_neg (by omega), yL_wI, a3, yL_wL, if_neg (by omega)]
                exact hh.2.1
          have S3 : SR od (wL (wI τ2 5 (t.length + 1) (nI ps.length)) 3 (t.length + 1) (-1)) ((ps.length, cd q, q, [], pl (cd q)) :: (g, s, p, pre ++ [q], r) :: t) := by
            refine ⟨?_, ?_, ?_, ?_, srt t (Nat.le_refl _) s3⟩
            · rw [yI_wL, yI_wI, if_pos ⟨rfl, rfl⟩]
            · rw [yL_wL, if_pos ⟨rfl, rfl⟩]; rfl
            · rw [yI_wL, yI_wI, if_neg (by omega), a4]; exact s1
            · rw [yL_wL, if_neg (by omega), yL_wI, a3, yL_wL, if_pos ⟨rfl, rfl⟩, kyo_snoc]
          have hN : yL (wL (wI τ2 5 (t.length + 1) (nI ps.length)) 3 (t.length + 1) (-1)) 0 = yL τ 0 := T3.1.trans T2.1
          obtain ⟨τ', i1, i2, i3, i4⟩ := ih _ _ _ (by rw [hN]; exact hR) (by rw [hN]; exact h1) P3 S3 (stk_push hK q1 q4 q5) (by rw [List.length_append]; exact hl2) (by unfold pmu at hn ⊢; simp only [List.length_append, List.length_cons, List.length_nil] at hn ⊢; omega)
          rw [PG_push hl2]
          refine ⟨τ', i1, ⟨v1, vp_in_nI (show g < 301 by omega) (by decide), v1, x2, inA 152 (by omega), v1, inA 92 (by omega), a5, vp_in_nI (show t.length + 1 < 64 by omega) (by decide), vp_in_nI (show t.length + 1 < 64 by omega) (by decide), i2⟩, i3, (T2.tr T3).tr i4⟩
/-- the reference lays its pages -/
theorem turn_eq {τ : SM} (hR : R2 ns np key al pa od cd rk pl L2 L3 L4 (yL τ 0)) (h1 : yL τ 0 1 = lN np) : ∃ τ', m_Mo_turn τ = wf τ' true ∧ k_Mo_turn τ ∧ PR τ' (pgs pl cd) ∧ TM τ τ' := by
  have h0 : PR (wn τ 4 0) [] := ⟨rfl, fun i s a b d h => by cases h⟩
  obtain ⟨a1, a2, a3, a4, a5⟩ := PR_add h0 (by decide) 0 (-1) (-1) 0
  have T1 : TM τ (wn τ 4 0) := ⟨rfl, rfl, rfl, fun k hk => by rw [yn_wn, if_neg hk], rfl⟩
  have T2 := T1.tr a2
  unfold m_Mo_turn k_Mo_turn
  have z0 : (0 : Int32).toNatClampNeg = 0 := by decide
  rw [z0]
  show ∃ τ', lp_Mo_turn_31 700 (wL (wI (m_Mo_addPage (wn τ 4 0) (nI 0) (-1) (-1) (nI 0)) 5 0 0) 3 0 (-1)) 0 = wf τ' true ∧ (k_Mo_addPage (wn τ 4 0) (nI 0) (-1) (-1) (nI 0) ∧ vp_in 0 (lnMI 5) ∧ vp_in 0 (lnML 3) ∧ kl_Mo_turn_31 700 (wL (wI (m_Mo_addPage (wn τ 4 0) (nI 0) (-1) (-1) (nI 0)) 5 0 0) 3 0 (-1)) 0) ∧ _
  generalize hτ2 : m_Mo_addPage (wn τ 4 0) (nI 0) (-1) (-1) (nI 0) = τ2 at a1 a2 a3 a4 T2 ⊢
  have T3 : TM τ2 (wL (wI τ2 5 0 0) 3 0 (-1)) := ⟨yL_wLn _ 3 _ _ (by decide), yL_wLn _ 3 _ _ (by decide), yL_wLn _ 3 _ _ (by decide), fun _ _ => rfl, rfl⟩
  have hN : yL (wL (wI τ2 5 0 0) 3 0 (-1)) 0 = yL τ 0 := T3.1.trans T2.1
  have P3 : PR (wL (wI τ2 5 0 0) 3 0 (-1)) [(0, -1, -1, 0)] := by
    refine ⟨a1.1, fun i s' a' b' d' hi => ?_⟩
    rw [yI_wL]
    simp only [yI_wI]
    simpa using a1.2 i s' a' b' d' hi
  have S3 : SR od (wL (wI τ2 5 0 0) 3 0 (-1)) [(0, 0, 0, [], pl 0)] := by
    refine ⟨?_, ?_, trivial⟩
    · rw [yI_wL]; show yI (wI τ2 5 0 0) 5 0 = _; rw [yI_wI]; rfl
    · show yL (wL (wI τ2 5 0 0) 3 0 (-1)) 3 0 = _; rw [yL_wL]; rfl
  have K3 : stk rk pl [(0, -1, -1, 0)] [(0, 0, 0, [], pl 0)] := ⟨rfl, rfl, rfl, rfl, hR.2.2.2.1 0 (by decide)⟩
  obtain ⟨τ', i1, i2, i3, i4⟩ := turn_loop (cd := cd) 700 _ _ _ (by rw [hN]; exact hR) (by rw [hN]; exact h1) P3 S3 K3 (by decide) (by unfold pmu; simp)
  exact ⟨τ', i1, ⟨a5, vp_in_nI (n := 0) (N := 64) (by decide) (by decide), vp_in_nI (n := 0) (N := 64) (by decide) (by decide), i2⟩, i3, (T2.tr T3).tr i4⟩
end TU
