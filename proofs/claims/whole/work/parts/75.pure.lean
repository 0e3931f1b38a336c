def cmg (ps : List Pg) (g i : Nat) : Nat := if g = 0 then 0 else (ps.take i).countP (fun x => x.1 == g - 1)
def shp (ps : List Pg) (i : Nat) : Nat := match ps[i]? with
  | some x => x.1 + 1
  | none => 0
def pof (ps : List Pg) (g j : Nat) : Nat → Nat → Int32
  | 0, _ => -1
  | m + 1, i => if shp ps i = g ∧ cmg ps g i = j then nI i else pof ps g j m (i + 1)
theorem shp_some {ps : List Pg} {i s : Nat} {a b : Int32} {d : Nat} (h : ps[i]? = some (s, a, b, d)) : shp ps i = s + 1 := by unfold shp; rw [h]
theorem cmg_succ {ps : List Pg} {i s : Nat} {a b : Int32} {d : Nat} (h : ps[i]? = some (s, a, b, d)) (g : Nat) : cmg ps g (i + 1) = cmg ps g i + if g = s + 1 then 1 else 0 := by
  unfold cmg
  by_cases g0 : g = 0
  · rw [if_pos g0, if_pos g0, if_neg (by omega)]
  · rw [if_neg g0, if_neg g0, take_succ_count h]
    by_cases e : g = s + 1
    · rw [if_pos e, if_pos (by omega)]
    · rw [if_neg e, if_neg (by omega)]
section PO
variable {σ : SC} {τ : SM} {ps : List Pg}
theorem pofC (hB : BK σ ps) (hl : ps.length ≤ 301) (hs : ∀ (i s : Nat) (a b : Int32) (d : Nat), ps[i]? = some (s, a, b, d) → s < 24) {g j : Nat} (hg : g ≤ 24) (hj : j < 2 ^ 30) : ∀ (m i : Nat), i + m = ps.length → lp_Book_pageOfComing_2 (m + 1) σ (nI g - 1) (nI j) (nI i) = pof ps g j m i
  | 0, i, h => by
    unfold lp_Book_pageOfComing_2
    rw [hB.1, if_pos (nI_le (by omega) (by omega))]; rfl
  | m + 1, i, h => by
    unfold lp_Book_pageOfComing_2
    obtain ⟨s, a, b, d, hgt⟩ := get4 (ps := ps) (i := i) (by omega)
    obtain ⟨b1, -, -, -, b5⟩ := hB.2.1 i s a b d hgt
    have hs24 := hs i s a b d hgt
    have hcl := List.countP_le_length (p := fun x : Pg => x.1 == s) (l := ps.take i)
    have hcl2 : (ps.take i).length ≤ ps.length := by rw [List.length_take]; omega
    unfold m_Book_sheetAt m_Book_comingAt
    rw [hB.1, if_neg (nI_ge (by omega) (by omega)), rd_in (j := 0) (show i < 301 by omega), rd_in (j := 4) (show i < 301 by omega), b1, b5, nI_1, pofC hB hl hs hg hj m (i + 1) (by omega)]
    show _ = if shp ps i = g ∧ cmg ps g i = j then nI i else pof ps g j m (i + 1)
    rw [shp_some hgt]
    by_cases e : g = s + 1
    · subst e
      have ec : cmg ps (s + 1) i = (ps.take i).countP (fun x => x.1 == s) := by unfold cmg; rw [if_neg (by omega)]; rfl
      rw [if_pos ((nI_sub1 (by omega) (by omega)).mpr rfl), ec]
      by_cases z : (ps.take i).countP (fun x => x.1 == s) = j
      · rw [if_pos (by rw [z]), if_pos ⟨rfl, z⟩]
      · rw [if_neg (fun w => z ((nI_eq (by omega) (by omega)).mp w)), if_neg (fun w => z w.2)]
    · rw [if_neg (fun w => e ((nI_sub1 (by omega) (by omega)).mp w)), if_neg (fun w => e w.1.symm)]
theorem pofM (hP : PR τ ps) (hl : ps.length ≤ 301) (hs : ∀ (i s : Nat) (a b : Int32) (d : Nat), ps[i]? = some (s, a, b, d) → s < 24) {g j : Nat} (hg : g ≤ 24) (v3 : Int32) : ∀ (m i v : Nat), i + m = ps.length → v < 2 ^ 31 → v + cmg ps g i = j → lp_Mo_pageOf_6 (m + 1) τ (lN g - 1) v3 (nI v) (nI i) = pof ps g j m i ∧ kl_Mo_pageOf_6 (m + 1) τ (lN g - 1) v3 (nI v) (nI i)
  | 0, i, v, h, _, _ => by
    unfold lp_Mo_pageOf_6 kl_Mo_pageOf_6
    have c1 : nI ps.length ≤ nI i := nI_le (by omega) (by omega)
    rw [hP.1, if_pos c1, if_pos c1]; exact ⟨rfl, trivial⟩
  | m + 1, i, v, h, hv31, hv => by
    unfold lp_Mo_pageOf_6 kl_Mo_pageOf_6
    obtain ⟨s, a, b, d, hgt⟩ := get4 (ps := ps) (i := i) (by omega)
    have b1 := (hP.2 i s a b d hgt).1
    have hs24 := hs i s a b d hgt
    have c1 : ¬ nI ps.length ≤ nI i := nI_ge (by omega) (by omega)
    have vi : vp_in (nI i) 301 := vp_in_nI (by omega) (by decide)
    have hst := cmg_succ hgt g
    rw [hP.1, if_neg c1, if_neg c1, nI_clamp (show i < 2 ^ 31 by omega), b1, nI_l (show s < 2 ^ 31 by omega), nI_1 i]
    show _ = (if shp ps i = g ∧ cmg ps g i = j then nI i else pof ps g j m (i + 1)) ∧ _
    rw [shp_some hgt]
    by_cases e : g = s + 1
    · have c2 := (lN_sub1 (g := g) (s := s) (by omega) (by omega)).mpr e
      rw [if_pos e] at hst
      rw [if_pos c2, if_pos c2]
      by_cases z : v = 0
      · have z2 : nI v = 0 := by rw [z]; rfl
        rw [if_pos z2, if_pos z2, if_pos ⟨e.symm, by omega⟩]; exact ⟨rfl, vi, trivial⟩
      · have z2 : ¬ nI v = 0 := nI_ne0 (by omega) (by omega)
        have ev : nI v + (-1) = nI (v - 1) := by
          obtain ⟨k, hk⟩ : ∃ k, v = k + 1 := ⟨v - 1, by omega⟩
          rw [hk]; exact pk_m1 k
        rw [if_neg z2, if_neg z2, if_neg (fun w => by omega), ev]
        obtain ⟨i1, i2⟩ := pofM (j := j) hP hl hs hg v3 m (i + 1) (v - 1) (by omega) (by omega) (by omega)
        exact ⟨i1, vi, i2⟩
    · have c2 : ¬ lg_cmp (lN s) (lN g - 1) = 0 := fun w => e ((lN_sub1 (by omega) (by omega)).mp w)
      rw [if_neg e] at hst
      rw [if_neg c2, if_neg c2, if_neg (fun w => e w.1.symm)]
      obtain ⟨i1, i2⟩ := pofM (j := j) hP hl hs hg v3 m (i + 1) v (by omega) hv31 (by omega)
      exact ⟨i1, vi, i2⟩
def pgo (ps : List Pg) (g j : Nat) : Int32 := pof ps g j ps.length 0
theorem pageC (hB : BK σ ps) (hl : ps.length ≤ 301) (hs : ∀ (i s : Nat) (a b : Int32) (d : Nat), ps[i]? = some (s, a, b, d) → s < 24) {g j : Nat} (hg : g ≤ 24) (hj : j < 2 ^ 30) : m_Book_pageOfComing σ (nI g - 1) (nI j) = pgo ps g j := by
  unfold m_Book_pageOfComing
  rw [hB.1, nI_clamp (by omega)]
  have := pofC hB hl hs hg hj ps.length 0 (by omega)
  rw [nI_0] at this; exact this
theorem pageM (hP : PR τ ps) (hl : ps.length ≤ 301) (hs : ∀ (i s : Nat) (a b : Int32) (d : Nat), ps[i]? = some (s, a, b, d) → s < 24) {g j : Nat} (hg : g ≤ 24) (hj : j < 2 ^ 31) : m_Mo_pageOf τ (lN g - 1) (nI j) = pgo ps g j ∧ k_Mo_pageOf τ (lN g - 1) (nI j) := by
  unfold m_Mo_pageOf k_Mo_pageOf
  rw [hP.1, nI_clamp (by omega)]
  have := pofM (j := j) hP hl hs hg (nI j) ps.length 0 j (by omega) hj (by unfold cmg; simp)
  rw [nI_0] at this; exact this
end PO
theorem op_where {c : Nat} (hc : c + 1 ≤ 1000) {σ : SC} {τ : SM} (h : RL c σ τ) (x y z : Int32) : okR (c + 1) σ (m_ST_where σ x y z) (k_Mo_where τ x y z) (m_Mo_where τ x y z) := by
  obtain ⟨A, hA⟩ := h
  have hA : RLA c A σ τ := hA
  obtain ⟨hpv, hb, -⟩ := pgs_PV hA.1.2.2.1 hA.1.1.1.2.2.1
  have hns := hA.1.1.1.2.2.2
  have hs24 : ∀ (i s : Nat) (a b : Int32) (d : Nat), (pgs (aP A) (aF A 3))[i]? = some (s, a, b, d) → s < 24 := fun i s a b d hi => by have := (hpv i s a b d hi).1; omega
  have th1 := ((hA.th 1).up hc).rl
  unfold m_ST_where m_Mo_where k_Mo_where m_ST_needPart m_ST_needUnit
  rcases qt_cases hA.1 x with ⟨b1, b2, b3⟩ | ⟨q, hq, rfl, b1, b2, b3⟩
  · obtain ⟨n1, n2⟩ := isGate_no b2 b3 z
    rw [b1, n1, if_pos bf, if_pos bf, if_pos bf]
    exact okR_no ⟨n2, trivial⟩ rfl th1
  · rw [b1, if_neg bt, unitC_eq hA.1 hA.2.2.1 hb hq]
    obtain ⟨τ', u1, u2, u3, u4, u5, u6⟩ := unitM_eq hA hq
    have ul := units_le A (pgs (aP A) (aF A 3)) q
    have th1' := ((u4.th 1).up hc).rl
    have th0' := ((u4.th 0).up hc).rl
    have hq30 := hA.1.1.2.2.1.2.2
    rw [u1]
    rcases gt_cases hA.1 hq b2 b3 z with ⟨d1, d2, d3⟩ | ⟨g, hg, hg8, rfl, d1, d2, d3⟩
    · rw [d1, d2, if_pos bf, if_pos bf]
      have : (match (if y < 0 then none else if y < nI (units A (pgs (aP A) (aF A 3)) q) then some () else none : Option Unit) with | none => none | some _ => (none : Option Int32)) = none := by
        split <;> rfl
      show okR (c + 1) σ (match (if y < 0 then none else if y < nI (units A (pgs (aP A) (aF A 3)) q) then some () else none : Option Unit) with | none => none | some _ => (none : Option Int32)) _ _
      rw [this]
      exact okR_no ⟨d3, trivial⟩ rfl th1
    · rw [d1, d2, if_neg bt, if_neg bt]
      rcases ix_cases y (n := units A (pgs (aP A) (aF A 3)) q) (by omega) with w | ⟨w, v⟩ | ⟨j, hj, e, w, v⟩
      · rw [if_pos w, if_pos w, if_pos w]
        exact okR_no ⟨d3, trivial⟩ rfl th1
      · have v2 : ¬ y < nI (units A (pgs (aP A) (aF A 3)) q) := Int32.not_lt.mpr v
        rw [if_neg w, if_neg w, if_neg w, if_neg v2]
        show okR (c + 1) σ none (_ ∧ _ ∧ if nI (units A (pgs (aP A) (aF A 3)) q) ≤ y then _ else _) (if nI (units A (pgs (aP A) (aF A 3)) q) ≤ y then _ else _)
        rw [if_pos v, if_pos v]
        exact okR_no ⟨d3, u2, trivial⟩ rfl th1'
      · have v2 : y < nI (units A (pgs (aP A) (aF A 3)) q) := Int32.not_le.mp v
        subst e
        obtain ⟨x1, x2, x3, -⟩ := hA.1.2.2.2.2.1.2.1 (8 * q + g) (by omega)
        rw [if_neg w, if_neg w, if_neg w, if_pos v2]
        show okR (c + 1) σ (some (m_Book_pageOfComing σ (m_Parts_sheetOfGate σ (nI q) (nI g)) (nI j))) (_ ∧ _ ∧ if nI (units A (pgs (aP A) (aF A 3)) q) ≤ nI j then _ else _) (if nI (units A (pgs (aP A) (aF A 3)) q) ≤ nI j then _ else _)
        rw [if_neg v, if_neg v, sheetOfGate_eq hA.1 hq hg8, pageC hA.2.2.1 hb hs24 (by omega) (by omega)]
        obtain ⟨p1, p2⟩ := pageM (τ := wn τ' 0 0) (g := aF A 7 (8 * q + g)) (j := j) u3 hb hs24 (by omega) (by omega)
        rw [g8_cl (by omega) hg8, yL_wn, u5, show 2192 + 8 * q + g = 2192 + (8 * q + g) by omega, x1, p1]
        exact okR_mk ⟨d3, u2, g8_in (by omega) hg8, p2, trivial⟩ rfl rfl th0'
