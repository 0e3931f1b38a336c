theorem cmp_lt {x y : Int64} : lg_cmp x y < 0 ↔ x < y := by
  unfold lg_cmp; split
  · rename_i h; constructor
    · intro e; exact absurd e (by decide)
    · intro e; exact absurd h (Int64.lt_asymm e)
  · split
    · rename_i h; subst h; constructor
      · intro e; exact absurd e (by decide)
      · intro e; exact absurd e Int64.lt_irrefl
    · rename_i h1 h2; constructor
      · intro _
        rcases Int64.lt_or_eq_of_le (Int64.not_lt.mp h1) with z | z
        · exact z
        · exact absurd z h2
      · intro _; decide
theorem cmp_le {x y : Int64} : lg_cmp x y ≤ 0 ↔ x ≤ y := by
  unfold lg_cmp; split
  · rename_i h; constructor
    · intro e; exact absurd e (by decide)
    · intro e; exact absurd h (Int64.not_lt.mpr e)
  · rename_i h
    have h2 := Int64.not_lt.mp h
    split
    · exact ⟨fun _ => h2, fun _ => by decide⟩
    · exact ⟨fun _ => h2, fun _ => by decide⟩
theorem cmp_ge {x y : Int64} : 0 ≤ lg_cmp x y ↔ y ≤ x := by
  rw [← Int32.not_lt, cmp_lt, Int64.not_lt]
theorem cmp_gt {x y : Int64} : 0 < lg_cmp x y ↔ y < x := by
  rw [← Int32.not_le, cmp_le, Int64.not_le]
theorem m1_lt0 : (-1 : Int64) < 0 := by decide
theorem lN_nlt0 {n : Nat} (h : n < 2 ^ 31) : ¬ lN n < 0 := by
  rw [Int64.lt_iff_toInt_lt, lN_toInt h]; show ¬ _ < (0 : Int); omega
theorem lN_m1lt {n : Nat} (h : n < 2 ^ 31) : (-1 : Int64) < lN n := by
  rw [Int64.lt_iff_toInt_lt, lN_toInt h]; show (-1 : Int) < _; omega
theorem clA (a : Nat) {i : Nat} (h : a + i < 2 ^ 31) : (nI a + nI i).toNatClampNeg = a + i := by rw [nI_add, nI_clamp h]
theorem inA (a : Nat) {i : Nat} (h : a + i < 3842) : vp_in (nI a + nI i) (lnML 0) := by rw [nI_add]; exact vp_in_nI h (by decide)
theorem count_eq {τ : SM} {k n : Nat} (hk : k < 8) (h : yL τ 0 k = lN n) : m_Mo_count τ (nI k) = nI n := by
  unfold m_Mo_count; rw [nI_clamp (by omega), h, lN_i]
theorem count_k {τ : SM} {k : Nat} (hk : k < 8) : k_Mo_count τ (nI k) := ⟨vp_in_nI (show k < 3842 by omega) (by decide), trivial⟩
section PM
variable {ns np key : Nat} {al pa od cd rk : Nat → Nat} {pl : Nat → List Nat} {L2 L3 L4 : Nat → Int64} {τ : SM}
theorem alM (hR : R2 ns np key al pa od cd rk pl L2 L3 L4 (yL τ 0)) {p : Nat} (hp : p < 60) (ha : al p ≠ 0) : yL τ 0 (152 + p) = lN (od p) ∧ yL τ 0 (32 + p) = lN (pa p) ∧ yL τ 0 (92 + p) = lN (cd p) ∧ od p < 2 ^ 30 ∧ pa p < 24 ∧ cd p < 24 ∧ p < np := by
  obtain ⟨h1, h2, h3, h4, h5, h6, h7, h8, h9⟩ := hR.1 p hp ha
  have a := hR.2.2.2.2.2.1
  have b := hR.2.2.2.2.2.2.2
  exact ⟨h6, h7, h8, by omega, by omega, by omega, h1⟩
theorem lies19 (hR : R2 ns np key al pa od cd rk pl L2 L3 L4 (yL τ 0)) (h1 : yL τ 0 1 = lN np) (K : SM → Int32 → Int32 → Int32 → Int32 → Bool) (KP : SM → Int32 → Int32 → Int32 → Int32 → Prop) (v1 v2 v4 : Int32) : ∀ (m i : Nat) (x : Int32), i + m = np →
    lp_Mo_liesIn_19 K (m + 1) τ v1 v2 x v4 (nI i) = K τ v1 v2 (rnd al pa cd m i x) v4 ∧ (KP τ v1 v2 (rnd al pa cd m i x) v4 → kl_Mo_liesIn_19 KP (m + 1) τ v1 v2 x v4 (nI i)) := by
  have hnp := hR.2.2.2.2.2.2.1
  have hct : m_Mo_count τ 1 = nI np := count_eq (k := 1) (by omega) h1
  intro m
  induction m with
  | zero =>
    intro i x h
    unfold lp_Mo_liesIn_19 kl_Mo_liesIn_19
    have c : nI np ≤ nI i := nI_le (by omega) (by omega)
    rw [hct, if_pos c, if_pos c]
    exact ⟨rfl, fun z => ⟨count_k (k := 1) (by decide), z⟩⟩
  | succ m ih =>
    intro i x h
    have c : ¬ nI np ≤ nI i := nI_ge (by omega) (by omega)
    unfold lp_Mo_liesIn_19 kl_Mo_liesIn_19
    have e152 : ((152 : Int32) + nI i).toNatClampNeg = 152 + i := clA 152 (by omega)
    have e32 : ((32 : Int32) + nI i).toNatClampNeg = 32 + i := clA 32 (by omega)
    have e92 : ((92 : Int32) + nI i).toNatClampNeg = 92 + i := clA 92 (by omega)
    rw [hct, if_neg c, if_neg c, e152, e32, e92, nI_1]
    show _ = K τ v1 v2 (rnd al pa cd m (i + 1) _) v4 ∧ (KP τ v1 v2 (rnd al pa cd m (i + 1) _) v4 → _)
    by_cases ha : al i = 0
    · have hd := (hR.2.1 i (by omega) ha).2.2 (by omega)
      have c2 : lg_cmp (yL τ 0 (152 + i)) 0 < 0 := cmp_lt.mpr (by rw [hd]; exact m1_lt0)
      rw [if_pos c2, if_pos c2, if_neg (fun z : al i ≠ 0 ∧ _ => z.1 ha)]
      obtain ⟨i1, i2⟩ := ih (i + 1) x (by omega)
      exact ⟨i1, fun z => ⟨count_k (k := 1) (by decide), inA 152 (by omega), i2 z⟩⟩
    · obtain ⟨g1, g2, g3, g4, g5, g6, -⟩ := alM hR (by omega) ha
      have c2 : ¬ lg_cmp (yL τ 0 (152 + i)) 0 < 0 := fun z => by rw [cmp_lt, g1] at z; exact lN_nlt0 (by omega) z
      rw [if_neg c2, if_neg c2, g2, g3, lN_i, lN_i]
      by_cases hb : tb x (pa i) = true
      · have c3 := (tb_shr1 (x := x) (k := pa i) (by omega)).mpr hb
        rw [if_pos c3, if_pos c3, if_pos ⟨ha, hb⟩]
        obtain ⟨i1, i2⟩ := ih (i + 1) (x ||| (1 <<< (nI (cd i) &&& 31))) (by omega)
        exact ⟨i1, fun z => ⟨count_k (k := 1) (by decide), inA 152 (by omega), inA 32 (by omega), inA 92 (by omega), i2 z⟩⟩
      · have c3 : ¬ ((x >>> (nI (pa i) &&& 31)) &&& 1) = 1 := fun z => hb ((tb_shr1 (by omega)).mp z)
        rw [if_neg c3, if_neg c3, if_neg (fun z : al i ≠ 0 ∧ _ => hb z.2)]
        obtain ⟨i1, i2⟩ := ih (i + 1) x (by omega)
        exact ⟨i1, fun z => ⟨count_k (k := 1) (by decide), inA 152 (by omega), inA 32 (by omega), i2 z⟩⟩
theorem rnd_np (hR : R2 ns np key al pa od cd rk pl L2 L3 L4 (yL τ 0)) (x : Int32) : rnd al pa cd np 0 x = rnd al pa cd 60 0 x := by
  have hnp := hR.2.2.2.2.2.2.1
  have h := rnd_add (al := al) (pa := pa) (cd := cd) np (60 - np) 0 x
  rw [show np + (60 - np) = 60 by omega] at h
  rw [h]
  refine (rnd_dead _ _ _ ?_).symm
  intro q hq
  refine Classical.byContradiction fun z => ?_
  by_cases e : q < 60
  · have := (hR.1 q e z).1; omega
  · exact z (hR.2.2.2.2.1 q (by omega))
theorem lies_loop (hR : R2 ns np key al pa od cd rk pl L2 L3 L4 (yL τ 0)) (h1 : yL τ 0 1 = lN np) {s o : Nat} (hs : s < 24) (ho : o < 24) (v2 : Int32) : ∀ (m i : Nat), 24 ≤ i + m → i ≤ 24 → ∀ (v4 : Int32), (0 < i → ∃ j, i = j + 1 ∧ v4 = itr (rnd al pa cd 60 0) j (1 <<< (nI s &&& 31))) → (i = 0 → v4 = 0) →
    lp_Mo_liesIn_7 (m + 1) τ (nI o) v2 (itr (rnd al pa cd 60 0) i (1 <<< (nI s &&& 31))) v4 = tb (clo al pa cd s) o ∧ kl_Mo_liesIn_7 (m + 1) τ (nI o) v2 (itr (rnd al pa cd 60 0) i (1 <<< (nI s &&& 31))) v4 := by
  have hc : ∀ p, al p ≠ 0 → cd p < 24 := fun p ha => (alM hR (Nat.lt_of_not_le fun z => ha (hR.2.2.2.2.1 p z)) ha).2.2.2.2.2.1
  have hct : m_Mo_count τ 1 = nI np := count_eq (k := 1) (by omega) h1
  have hnp := hR.2.2.2.2.2.2.1
  have fin : ∀ x : Int32, x = clo al pa cd s → (if ((x >>> (nI o &&& 31)) &&& 1) = 1 then true else false) = tb (clo al pa cd s) o ∧ (if ((x >>> (nI o &&& 31)) &&& 1) = 1 then True else True) := by
    intro x e
    subst e
    refine ⟨?_, by split <;> trivial⟩
    by_cases h : tb (clo al pa cd s) o = true
    · rw [if_pos ((tb_shr1 (by omega)).mpr h), h]
    · rw [if_neg (fun z => h ((tb_shr1 (by omega)).mp z))]; simpa using h
  have stop : ∀ (i : Nat) (v4 : Int32), i ≤ 24 → (0 < i → ∃ j, i = j + 1 ∧ v4 = itr (rnd al pa cd 60 0) j (1 <<< (nI s &&& 31))) → (i = 0 → v4 = 0) → v4 = itr (rnd al pa cd 60 0) i (1 <<< (nI s &&& 31)) → itr (rnd al pa cd 60 0) i (1 <<< (nI s &&& 31)) = clo al pa cd s := by
    intro i v4 hi h1 h2 e
    by_cases z : i = 0
    · subst z
      rw [h2 rfl] at e
      exact absurd e.symm (one_ne hs)
    · obtain ⟨j, hj, e4⟩ := h1 (by omega)
      subst hj
      have h3 := itr_fix (f := rnd al pa cd 60 0) (x := 1 <<< (nI s &&& 31)) (k := j) (e.symm.trans e4) (23 - j)
      rw [show j + (23 - j) = 23 by omega, clo_stab hc hs 23 (by omega)] at h3
      rw [← e, e4, h3]
  intro m
  induction m with
  | zero =>
    intro i h hi v4 h1 h2
    have e24 : i = 24 := by omega
    subst e24
    have e : v4 = itr (rnd al pa cd 60 0) 24 (1 <<< (nI s &&& 31)) := by
      obtain ⟨j, hj, e4⟩ := h1 (by omega)
      have : j = 23 := by omega
      subst this
      rw [e4, clo_stab hc hs 23 (by omega), clo_stab hc hs 24 (by omega)]
    unfold lp_Mo_liesIn_7 kl_Mo_liesIn_7
    rw [if_pos e, if_pos e]
    exact fin _ (stop 24 v4 hi h1 h2 e)
  | succ m ih =>
    intro i h hi v4 h1 h2
    unfold lp_Mo_liesIn_7 kl_Mo_liesIn_7
    by_cases e : v4 = itr (rnd al pa cd 60 0) i (1 <<< (nI s &&& 31))
    · rw [if_pos e, if_pos e]
      exact fin _ (stop i v4 hi h1 h2 e)
    · rw [if_neg e, if_neg e, hct, nI_clamp (by omega)]
      obtain ⟨g1, g2⟩ := lies19 hR ‹_› (lp_Mo_liesIn_7 (m + 1)) (kl_Mo_liesIn_7 (m + 1)) (nI o) v2 (itr (rnd al pa cd 60 0) i (1 <<< (nI s &&& 31))) np 0 (itr (rnd al pa cd 60 0) i (1 <<< (nI s &&& 31))) (by omega)
      rw [rnd_np hR] at g1 g2
      have hi2 : i ≠ 24 := by
        intro z
        subst z
        apply e
        obtain ⟨j, hj, e4⟩ := h1 (by omega)
        have : j = 23 := by omega
        subst this
        rw [e4, clo_stab hc hs 23 (by omega), clo_stab hc hs 24 (by omega)]
      obtain ⟨i1, i2⟩ := ih (i + 1) (by omega) (by omega) _ (fun _ => ⟨i, rfl, rfl⟩) (fun z => by omega)
      exact ⟨g1.trans i1, g2 i2⟩
theorem lies_eq (hR : R2 ns np key al pa od cd rk pl L2 L3 L4 (yL τ 0)) (h1 : yL τ 0 1 = lN np) {s o : Nat} (hs : s < 24) (ho : o < 24) : m_Mo_liesIn τ (nI o) (nI s) = tb (clo al pa cd s) o ∧ k_Mo_liesIn τ (nI o) (nI s) := by
  have h := lies_loop hR h1 hs ho (nI s) 39 0 (by omega) (by omega) 0 (fun z => by omega) (fun _ => rfl)
  exact h
end PM
