/-! ===== copy: what there is to copy ===== -/
theorem len_l {F : Nat → Int64} {σ : SC} (hF : xL σ 4 = F) (v1 : Int32) : ∀ (l : List Nat) (c n k : Nat), c < 84 → chn F c l → l.length < n → k + l.length ≤ 60 → lp_Sheets_placementsOn_8 n σ v1 (nI k) (hdI l) = nI (k + l.length)
  | [], _, n, k, _, _, hn, _ => by
    obtain ⟨n, rfl⟩ : ∃ j, n = j + 1 := ⟨n - 1, by omega⟩
    unfold lp_Sheets_placementsOn_8
    rw [if_pos (by rfl)]; rfl
  | p :: t, c, n, k, hc, h, hn, hk => by
    rw [List.length_cons] at hn hk
    obtain ⟨n, rfl⟩ : ∃ j, n = j + 1 := ⟨n - 1, by omega⟩
    have hp : p < 60 := h.2.1
    unfold lp_Sheets_placementsOn_8
    have e : hdI (p :: t) = nI p := rfl
    rw [e, if_neg (nI_m1 (by omega)), if_neg (show ¬ (60 : Int32) ≤ nI k from nI_ge (b := 60) (by omega) (by decide)), nI_1]
    unfold m_Sheets_nextOf
    rw [at_in (k := 4) (show p < 84 by omega), hF, chn_hd h.2.2, len_l hF v1 t p n (k + 1) (by omega) h.2.2 (by omega) (by omega), List.length_cons]
    congr 1; omega
theorem plOn_C {ns np key : Nat} {al pa od cd rk : Nat → Nat} {pl : Nat → List Nat} {N : Nat → Int64} {σ : SC} (hR : R2 ns np key al pa od cd rk pl (xL σ 2) (xL σ 3) (xL σ 4) N) {s : Nat} (hs : s < 24) : m_Sheets_placementsOn σ (nI s) = nI (pl s).length := by
  unfold m_Sheets_placementsOn
  have e61 : (60 : Int32).toNatClampNeg + 1 = 61 := by decide
  have hl := pl_len hR hs
  rw [e61, pl_chn (xL σ) rfl hR hs]
  have := len_l (σ := σ) rfl (nI s) (pl s) (60 + s) 61 0 (by omega) (hR.2.2.1 s hs).1 (by omega) (by omega)
  rw [nI_0, Nat.zero_add] at this
  exact this
section PLM
variable {ns np key : Nat} {al pa od cd rk : Nat → Nat} {pl : Nat → List Nat} {L2 L3 L4 : Nat → Int64} {τ : SM}
theorem plOn_l (hR : R2 ns np key al pa od cd rk pl L2 L3 L4 (yL τ 0)) (h1 : yL τ 0 1 = lN np) {s : Nat} (hs : s < 24) : ∀ (m i v : Nat), i + m = np → lp_Mo_placementsOn_4 (m + 1) τ (nI s) (nI v) (nI i) = nI (v + (List.range' i m).countP (fun p => decide (p ∈ pl s))) ∧ kl_Mo_placementsOn_4 (m + 1) τ (nI s) (nI v) (nI i) := by
  have hnp := hR.2.2.2.2.2.2.1
  have hct : m_Mo_count τ 1 = nI np := count_eq (k := 1) (by omega) h1
  obtain ⟨-, hmem, -⟩ := hR.2.2.1 s hs
  intro m
  induction m with
  | zero =>
    intro i v hi
    unfold lp_Mo_placementsOn_4 kl_Mo_placementsOn_4
    have c : nI np ≤ nI i := nI_le (by omega) (by omega)
    rw [hct, if_pos c, if_pos c]
    exact ⟨rfl, count_k (k := 1) (by decide), trivial⟩
  | succ m ih =>
    intro i v hi
    unfold lp_Mo_placementsOn_4 kl_Mo_placementsOn_4
    have c : ¬ nI np ≤ nI i := nI_ge (by omega) (by omega)
    have e152 : ((152 : Int32) + nI i).toNatClampNeg = 152 + i := clA 152 (by omega)
    have e32 : ((32 : Int32) + nI i).toNatClampNeg = 32 + i := clA 32 (by omega)
    have hz : nI v + 0 = nI v := Int32.add_zero _
    rw [hct, if_neg c, if_neg c, e152, e32, nI_1 i, hz, nI_1 v, List.range'_succ, List.countP_cons]
    have no : i ∉ pl s → nI (v + (List.countP (fun p => decide (p ∈ pl s)) (List.range' (i + 1) m) + if decide (i ∈ pl s) = true then 1 else 0)) = nI (v + List.countP (fun p => decide (p ∈ pl s)) (List.range' (i + 1) m)) := fun h => by
      rw [if_neg (by simpa using h)]; rfl
    obtain ⟨i1, i2⟩ := ih (i + 1) v (by omega)
    obtain ⟨j1, j2⟩ := ih (i + 1) (v + 1) (by omega)
    by_cases ha : al i = 0
    · have hd := (hR.2.1 i (by omega) ha).2.2 (by omega)
      have c2 : lg_cmp (yL τ 0 (152 + i)) 0 < 0 := cmp_lt.mpr (by rw [hd]; exact m1_lt0)
      rw [if_pos c2, if_pos c2, no (fun z => ((hmem i).mp z).2.1 ha)]
      exact ⟨i1, count_k (k := 1) (by decide), inA 152 (by omega), i2⟩
    · obtain ⟨g1, g2, g3, g4, g5, g6, -⟩ := alM hR (by omega) ha
      have c2 : ¬ lg_cmp (yL τ 0 (152 + i)) 0 < 0 := fun z => by rw [cmp_lt, g1] at z; exact lN_nlt0 (by omega) z
      rw [if_neg c2, if_neg c2, g2, nI_l (show s < 2 ^ 31 by omega)]
      by_cases hs2 : pa i = s
      · have c3 : lg_cmp (lN (pa i)) (lN s) = 0 := cmp0.mpr (by rw [hs2])
        rw [if_pos c3, if_pos c3, if_pos (by simpa using (hmem i).mpr ⟨by omega, ha, hs2⟩)]
        refine ⟨?_, count_k (k := 1) (by decide), inA 152 (by omega), inA 32 (by omega), j2⟩
        rw [j1]; congr 1; omega
      · have c3 : ¬ lg_cmp (lN (pa i)) (lN s) = 0 := fun z => hs2 ((lN_eq (by omega) (by omega)).mp (cmp0.mp z))
        rw [if_neg c3, if_neg c3, no (fun z => hs2 ((hmem i).mp z).2.2)]
        exact ⟨i1, count_k (k := 1) (by decide), inA 152 (by omega), inA 32 (by omega), i2⟩
theorem cnt_mem {l : List Nat} {n : Nat} (hd : l.Nodup) (hb : ∀ a ∈ l, a < n) : (List.range' 0 n).countP (fun p => decide (p ∈ l)) = l.length := by
  rw [List.countP_eq_length_filter]
  apply List.Perm.length_eq
  rw [List.perm_ext_iff_of_nodup _ hd]
  · intro k
    rw [List.mem_filter, List.mem_range']
    constructor
    · rintro ⟨-, h⟩; simpa using h
    · intro h; exact ⟨⟨k, hb k h, by omega⟩, by simpa using h⟩
  · exact (List.nodup_range' (step := 1) (by decide)).sublist List.filter_sublist
theorem plOn_M (hR : R2 ns np key al pa od cd rk pl L2 L3 L4 (yL τ 0)) (h1 : yL τ 0 1 = lN np) {s : Nat} (hs : s < 24) : m_Mo_placementsOn τ (nI s) = nI (pl s).length ∧ k_Mo_placementsOn τ (nI s) := by
  have hnp := hR.2.2.2.2.2.2.1
  have hct : m_Mo_count τ 1 = nI np := count_eq (k := 1) (by omega) h1
  unfold m_Mo_placementsOn k_Mo_placementsOn
  rw [hct, nI_clamp (by omega)]
  have := plOn_l hR h1 hs np 0 0 (by omega)
  rw [nI_0, cnt_mem (pl_nodup hR hs) (fun a ha => (pl_al hR hs ha).2.2.2.2.2.1), Nat.zero_add] at this
  exact this
end PLM
/-- the parts of some gates, each once, as they come -/
def fdp (l : List Nat) : List Nat := l.foldl (fun acc k => if k / 8 ∈ acc then acc else acc ++ [k / 8]) []
theorem fdp_snoc (l : List Nat) (k : Nat) : fdp (l ++ [k]) = if k / 8 ∈ fdp l then fdp l else fdp l ++ [k / 8] := by
  unfold fdp; rw [List.foldl_append]; rfl
theorem snoc_ind {P : List Nat → Prop} (h0 : P []) (hs : ∀ l k, P l → P (l ++ [k])) : ∀ l, P l := by
  have key : ∀ (n : Nat) (l : List Nat), l.length = n → P l := by
    intro n
    induction n with
    | zero => intro l hl; rw [List.length_eq_zero_iff.mp hl]; exact h0
    | succ n ih =>
      intro l hl
      rcases List.eq_nil_or_concat l with e | ⟨t, x, e⟩
      · rw [e] at hl; cases hl
      · rw [List.concat_eq_append] at e
        subst e
        exact hs t x (ih t (by simpa using hl))
  exact fun l => key l.length l rfl
theorem fdp_mem : ∀ (l : List Nat) (q : Nat), q ∈ fdp l ↔ ∃ k ∈ l, k / 8 = q := by
  apply snoc_ind
  · intro q; simp [fdp]
  · intro l k ih q
    rw [fdp_snoc]
    by_cases c : k / 8 ∈ fdp l
    · rw [if_pos c, ih q]
      constructor
      · rintro ⟨x, h1, h2⟩; exact ⟨x, List.mem_append_left _ h1, h2⟩
      · rintro ⟨x, h1, h2⟩
        rcases List.mem_append.mp h1 with z | z
        · exact ⟨x, z, h2⟩
        · rw [List.mem_singleton.mp z] at h2
          rw [h2] at c
          exact (ih q).mp c
    · rw [if_neg c, List.mem_append, ih q]
      constructor
      · rintro (⟨x, h1, h2⟩ | h)
        · exact ⟨x, List.mem_append_left _ h1, h2⟩
        · exact ⟨k, by simp, (List.mem_singleton.mp h).symm⟩
      · rintro ⟨x, h1, h2⟩
        rcases List.mem_append.mp h1 with z | z
        · exact Or.inl ⟨x, z, h2⟩
        · right; rw [List.mem_singleton.mp z] at h2; rw [← h2]; simp
theorem fdp_nodup : ∀ (l : List Nat), (fdp l).Nodup := by
  apply snoc_ind
  · exact List.nodup_nil
  · intro l k ih
    rw [fdp_snoc]
    by_cases c : k / 8 ∈ fdp l
    · rw [if_pos c]; exact ih
    · rw [if_neg c, List.nodup_append]
      refine ⟨ih, by simp, fun a ha b hb => ?_⟩
      rw [List.mem_singleton.mp hb]
      intro e; rw [e] at ha; exact c ha
theorem fdp_mono (l : List Nat) : ∀ (r : List Nat), (fdp l).length ≤ (fdp (l ++ r)).length := by
  apply snoc_ind
  · rw [List.append_nil]; exact Nat.le_refl _
  · intro r k ih
    rw [← List.append_assoc, fdp_snoc]
    split
    · exact ih
    · rw [List.length_append]; omega
theorem fdp_lt {l r : List Nat} {k : Nat} (h : k / 8 ∉ fdp l) : (fdp l).length + 1 ≤ (fdp (l ++ k :: r)).length := by
  have h1 := fdp_mono (l ++ [k]) r
  rw [fdp_snoc, if_neg h, List.length_append] at h1
  rw [show l ++ k :: r = (l ++ [k]) ++ r by simp]
  simpa using h1
section PQ
variable {c : Nat} {A : AS} {σ : SC} {τ : SM}
theorem ptOn_l {L : LL} {N : Nat → Int64} (h : RR c A L N) {s : Nat} (hs : s < 24) : ∀ (rest pre : List Nat) (σ : SC) (n : Nat), xL σ = L → aG A s = pre ++ rest → rest.length < n → (∀ q, q < 30 → (xI σ 6 q = -1 ↔ q ∉ fdp pre)) →
    ∃ σ', lp_Parts_partsOn_12 n σ (nI s) (nI (fdp pre).length) (nI pre.length) = (nI (fdp (aG A s)).length, σ') ∧ LK σ σ' := by
  have hR := h.2.2.2.2.1
  have b2 := h.1.2.2.1.2.2
  obtain ⟨y1, y2, -⟩ := hR.2.2.2.1 s hs
  intro rest
  induction rest with
  | nil =>
    intro pre σ n hL hgl hn hm
    obtain ⟨n, rfl⟩ : ∃ k, n = k + 1 := ⟨n - 1, by omega⟩
    rw [List.append_nil] at hgl
    have hlen : m_Parts_gatesOn σ (nI s) = nI pre.length := by
      unfold m_Parts_gatesOn; rw [at_in (k := 11) (show s < 24 from hs), hL, y1, lN_i, hgl]
    unfold lp_Parts_partsOn_12
    rw [hgl] at y2
    rw [hlen, if_pos (nI_le (Nat.le_refl _) (by omega)), hgl]
    exact ⟨σ, rfl, LK_rfl σ⟩
  | cons k rest ih =>
    intro pre σ n hL hgl hn hm
    rw [List.length_cons] at hn
    obtain ⟨n, rfl⟩ : ∃ j, n = j + 1 := ⟨n - 1, by omega⟩
    have hσ : RR c A (xL σ) (yL ((fun _ => N, fun _ _ => 0, fun _ => 0, false, 0) : SM) 0) := by rw [hL]; exact h
    have hlen : m_Parts_gatesOn σ (nI s) = nI (aG A s).length := by
      unfold m_Parts_gatesOn; rw [at_in (k := 11) (show s < 24 from hs), hL, y1, lN_i]
    have hll : pre.length < (aG A s).length := by rw [hgl, List.length_append, List.length_cons]; omega
    have hka : (aG A s)[pre.length]? = some k := by rw [hgl, List.getElem?_append_right (Nat.le_refl _)]; simp
    obtain ⟨e1, e2, e3, e4, -⟩ := partAt_eq hσ hs hka
    have hgl' : aG A s = (pre ++ [k]) ++ rest := by rw [hgl, List.append_assoc]; rfl
    have hpl : (pre ++ [k]).length = pre.length + 1 := by simp
    unfold lp_Parts_partsOn_12
    rw [hlen, if_neg (nI_ge hll (by omega)), e1, rd_in (j := 6) (show k / 8 < 30 by omega), nI_1 pre.length]
    by_cases cf : k / 8 ∈ fdp pre
    · rw [if_neg (fun z => (hm (k / 8) (by omega)).mp z cf)]
      have ef : fdp (pre ++ [k]) = fdp pre := by rw [fdp_snoc, if_pos cf]
      obtain ⟨σ', j1, j2⟩ := ih (pre ++ [k]) σ n hL hgl' (by omega) (fun q hq => by rw [ef]; exact hm q hq)
      rw [ef, hpl] at j1
      exact ⟨σ', j1, j2⟩
    · rw [if_pos ((hm (k / 8) (by omega)).mpr cf), wr_in (j := 6) (show k / 8 < 30 by omega), nI_1]
      have ef : fdp (pre ++ [k]) = fdp pre ++ [k / 8] := by rw [fdp_snoc, if_neg cf]
      have hLK := LK_z σ (k / 8) (nI (k / 8))
      obtain ⟨σ', j1, j2⟩ := ih (pre ++ [k]) (zI σ 6 (k / 8) (nI (k / 8))) n (hLK.1.trans hL) hgl' (by omega) (fun q hq => by
        rw [xI_zI, ef, List.mem_append, List.mem_singleton]
        by_cases e : q = k / 8
        · rw [if_pos ⟨rfl, e⟩]
          exact ⟨fun z => absurd z (nI_m1 (by omega)), fun z => absurd (Or.inr e) z⟩
        · rw [if_neg (fun z => e z.2), hm q hq]
          exact ⟨fun z w => w.elim z e, fun z w => z (Or.inl w)⟩)
      rw [ef, hpl, List.length_append] at j1
      exact ⟨σ', j1, hLK.tr j2⟩
theorem ptOn_C (h : RR c A (xL σ) (yL τ 0)) {s : Nat} (hs : s < 24) : ∃ σ', m_Parts_partsOn σ (nI s) = (nI (fdp (aG A s)).length, σ') ∧ LK σ σ' := by
  unfold m_Parts_partsOn
  have hf := fill_eq σ 6 (-1)
  generalize m_Arrays_fillI σ 6 (-1) = F at hf ⊢
  obtain ⟨k1, k2, k3, k4⟩ := hf
  have hLK : LK σ F := ⟨k2.1, k2.2.1, k2.2.2.1, k4, k3⟩
  obtain ⟨y1, y2, -⟩ := h.2.2.2.2.1.2.2.2.1 s hs
  have hlen : m_Parts_gatesOn F (nI s) = nI (aG A s).length := by
    unfold m_Parts_gatesOn; rw [at_in (k := 11) (show s < 24 from hs), k2.1, y1, lN_i]
  rw [hlen, nI_clamp (by omega)]
  obtain ⟨σ', j1, j2⟩ := ptOn_l h hs (aG A s) [] F ((aG A s).length + 1) k2.1 rfl (by omega) (fun q hq => by
    rw [k1 q hq]; simp [fdp])
  exact ⟨σ', j1, hLK.tr j2⟩
theorem pt19 (h : RR c A (xL σ) (yL τ 0)) {s q : Nat} (hs : s < 24) (hq : q < aN A 2) (K : SM → Int32 → Int32 → Int32 → Int32) (KP : SM → Int32 → Int32 → Int32 → Prop) (v : Nat) : ∀ (m g : Nat) (f : Bool), g + m = 8 → (f = true ↔ ∃ g', g' < g ∧ aF A 7 (8 * q + g') = s + 1) →
    lp_Mo_partsOn_19 K (m + 1) τ (nI s) (nI v) (nI q) (bi f) (nI g) = K τ (nI s) (nI (v + if q ∈ fdp (aG A s) then 1 else 0)) (nI (q + 1)) ∧ (KP τ (nI s) (nI (v + if q ∈ fdp (aG A s) then 1 else 0)) (nI (q + 1)) → kl_Mo_partsOn_19 KP (m + 1) τ (nI s) (nI v) (nI q) (bi f) (nI g)) := by
  have hR := h.2.2.2.2.1
  have b2 := h.1.2.2.1.2.2
  have hns := h.1.1.2.2.2
  obtain ⟨-, -, -, hmem, -⟩ := hR.2.2.2.1 s hs
  have hin : q ∈ fdp (aG A s) ↔ ∃ g', g' < 8 ∧ aF A 7 (8 * q + g') = s + 1 := by
    rw [fdp_mem]
    constructor
    · rintro ⟨k, h1, h2⟩
      refine ⟨k % 8, by omega, ?_⟩
      rw [← h2, show 8 * (k / 8) + k % 8 = k by omega]
      exact (hmem k).mp h1
    · rintro ⟨g', h1, h2⟩
      exact ⟨8 * q + g', (hmem _).mpr h2, by omega⟩
  have n10 : ¬ (1 : Int32) = 0 := by decide
  have z00 : (0 : Int32) = 0 := rfl
  have hz : nI v + 0 = nI v := Int32.add_zero _
  intro m
  induction m with
  | zero =>
    intro g f hg hf
    have g8 : g = 8 := by omega
    subst g8
    unfold lp_Mo_partsOn_19 kl_Mo_partsOn_19
    have c1 : (8 : Int32) ≤ nI 8 := by decide
    rw [if_pos c1, if_pos c1, hz, nI_1 v, nI_1 q]
    cases f with
    | true =>
      have e1 : bi true = 1 := rfl
      rw [e1, if_neg n10, if_neg n10, if_pos (hin.mpr (hf.mp rfl))]
      exact ⟨rfl, fun w => w⟩
    | false =>
      have e1 : bi false = 0 := rfl
      rw [e1, if_pos z00, if_pos z00, if_neg (fun z => by have := hf.mpr (hin.mp z); cases this)]
      exact ⟨rfl, fun w => w⟩
  | succ m ih =>
    intro g f hg hf
    unfold lp_Mo_partsOn_19 kl_Mo_partsOn_19
    have c1 : ¬ (8 : Int32) ≤ nI g := nI_ge (b := 8) (by omega) (by decide)
    obtain ⟨x1, x2, x3, -⟩ := hR.2.1 (8 * q + g) (by omega)
    rw [if_neg c1, if_neg c1, g8_cl (by omega) (by omega), show 2192 + 8 * q + g = 2192 + (8 * q + g) by omega, x1, nI_l (show s < 2 ^ 31 by omega), lN_1, nI_1 g]
    have gi := g8_in (q := q) (g := g) (by omega) (by omega)
    cases f with
    | true =>
      have e1 : bi true = 1 := rfl
      rw [e1, if_neg n10, if_neg n10]
      exact ih (g + 1) true (by omega) ⟨fun _ => by obtain ⟨g', w1, w2⟩ := hf.mp rfl; exact ⟨g', by omega, w2⟩, fun _ => rfl⟩
    | false =>
      have e1 : bi false = 0 := rfl
      rw [e1, if_pos z00, if_pos z00]
      by_cases e : aF A 7 (8 * q + g) = s + 1
      · have c2 : lg_cmp (lN (aF A 7 (8 * q + g))) (lN (s + 1)) = 0 := cmp0.mpr (by rw [e])
        rw [if_pos c2, if_pos c2]
        obtain ⟨i1, i2⟩ := ih (g + 1) true (by omega) ⟨fun _ => ⟨g, by omega, e⟩, fun _ => rfl⟩
        exact ⟨i1, fun w => ⟨gi, i2 w⟩⟩
      · have c2 : ¬ lg_cmp (lN (aF A 7 (8 * q + g))) (lN (s + 1)) = 0 := fun w => e ((lN_eq (by omega) (by omega)).mp (cmp0.mp w))
        rw [if_neg c2, if_neg c2]
        obtain ⟨i1, i2⟩ := ih (g + 1) false (by omega) ⟨fun z => (by cases z), fun z => by
          obtain ⟨g', w1, w2⟩ := z
          by_cases y : g' = g
          · rw [y] at w2; exact absurd w2 e
          · exact hf.mpr ⟨g', by omega, w2⟩⟩
        exact ⟨i1, fun w => ⟨gi, i2 w⟩⟩
theorem ptM_l (h : RR c A (xL σ) (yL τ 0)) {s : Nat} (hs : s < 24) : ∀ (m i v : Nat), i + m = aN A 2 → lp_Mo_partsOn_4 (m + 1) τ (nI s) (nI v) (nI i) = nI (v + (List.range' i m).countP (fun q => decide (q ∈ fdp (aG A s)))) ∧ kl_Mo_partsOn_4 (m + 1) τ (nI s) (nI v) (nI i) := by
  have b2 := h.1.2.2.1.2.2
  intro m
  induction m with
  | zero =>
    intro i v hi
    unfold lp_Mo_partsOn_4 kl_Mo_partsOn_4
    have c1 : nI (aN A 2) ≤ nI i := nI_le (by omega) (by omega)
    rw [ct2 h, if_pos c1, if_pos c1]
    exact ⟨rfl, count_k (k := 2) (by decide), trivial⟩
  | succ m ih =>
    intro i v hi
    unfold lp_Mo_partsOn_4 kl_Mo_partsOn_4
    have c1 : ¬ nI (aN A 2) ≤ nI i := nI_ge (by omega) (by omega)
    have e9 : (8 : Int32).toNatClampNeg + 1 = 8 + 1 := by decide
    rw [ct2 h, if_neg c1, if_neg c1, e9]
    obtain ⟨k1, k2⟩ := pt19 h hs (q := i) (by omega) (lp_Mo_partsOn_4 (m + 1)) (kl_Mo_partsOn_4 (m + 1)) v 8 0 false (by omega) ⟨fun z => (by cases z), fun z => by obtain ⟨g', w1, -⟩ := z; omega⟩
    have e1 : bi false = 0 := rfl
    rw [nI_0, e1] at k1 k2
    obtain ⟨i1, i2⟩ := ih (i + 1) (v + if i ∈ fdp (aG A s) then 1 else 0) (by omega)
    refine ⟨k1.trans (i1.trans ?_), count_k (k := 2) (by decide), k2 i2⟩
    rw [List.range'_succ, List.countP_cons]
    by_cases z : i ∈ fdp (aG A s)
    · rw [if_pos z, if_pos (by simpa using z)]; congr 1; omega
    · rw [if_neg z, if_neg (by simpa using z)]; rfl
theorem fdp_bd (h : RR c A (xL σ) (yL τ 0)) {s : Nat} (hs : s < 24) : ∀ q ∈ fdp (aG A s), q < aN A 2 := fun q hq => by
  have hR := h.2.2.2.2.1
  obtain ⟨-, -, -, hmem, -⟩ := hR.2.2.2.1 s hs
  obtain ⟨k, h1, h2⟩ := (fdp_mem _ q).mp hq
  have := gs_lt hR (k := k) (by have := (hmem k).mp h1; omega)
  omega
theorem ptOn_M (h : RR c A (xL σ) (yL τ 0)) {s : Nat} (hs : s < 24) : m_Mo_partsOn τ (nI s) = nI (fdp (aG A s)).length ∧ k_Mo_partsOn τ (nI s) := by
  have b2 := h.1.2.2.1.2.2
  unfold m_Mo_partsOn k_Mo_partsOn
  rw [ct2 h, nI_clamp (by omega)]
  have := ptM_l h hs (aN A 2) 0 0 (by omega)
  rw [nI_0, cnt_mem (fdp_nodup _) (fdp_bd h hs), Nat.zero_add] at this
  exact this
end PQ
section NG
variable {ns nq key : Nat} {lt gc gs gp : Nat → Nat} {gl : Nat → List Nat} {L7 L8 L9 L10 L11 : Nat → Int64} {τ : SM}
theorem nextG_loop (hR : R4 ns nq key lt gc gs gp gl L7 L8 L9 L10 L11 (yL τ 0)) (h2 : yL τ 0 2 = lN nq) {s : Nat} (hs : s < 24) {pre r : List Nat} (hpl : gl s = pre ++ r) : ∀ (m i : Nat) (b : Int32), i + m = 8 * nq →
    ((b = -1 ∧ ∀ q ∈ r, i ≤ q) ∨ ∃ q ∈ r, b = nI q ∧ q < i ∧ ∀ q' ∈ r, q' < i → gp q ≤ gp q') →
    lp_Mo_nextGate_6 (m + 1) τ (nI s) (kyo gp pre) b (nI i) = hdI r ∧ kl_Mo_nextGate_6 (m + 1) τ (nI s) (kyo gp pre) b (nI i) := by
  have hnq := hR.2.2.2.2.1
  have hns := hR.2.2.2.2.2.1
  have hky := hR.2.2.2.2.2.2
  obtain ⟨-, -, -, hmem, hsort⟩ := hR.2.2.2.1 s hs
  rw [hpl] at hmem hsort
  have hg : ∀ k, k ∈ pre ++ r → k < 8 * nq ∧ yL τ 0 (2432 + k) = lN (gp k) ∧ gp k < 2 ^ 30 := fun k hk => by
    have h1 := (hmem k).mp hk
    have h3 := gs_lt hR (k := k) (by omega)
    obtain ⟨x1, x2, -⟩ := (hR.2.1 k h3).2.2.2 (by omega)
    exact ⟨h3, x1, by omega⟩
  have hbd : ∀ p ∈ pre ++ r, gp p < 2 ^ 30 := fun p hp => (hg p hp).2.2
  intro m
  induction m with
  | zero =>
    intro i b h hb
    have c : nI (8 * nq) ≤ nI i := nI_le (by omega) (by omega)
    unfold lp_Mo_nextGate_6 kl_Mo_nextGate_6
    rw [e8c h2, if_pos c, if_pos c]
    refine ⟨?_, count_k (k := 2) (by decide), trivial⟩
    rcases hb with ⟨e, hq⟩ | ⟨q, hq, e, hlt, hmin⟩
    · subst e
      cases r with
      | nil => rfl
      | cons q r =>
        have z := (hg q (by simp)).1
        have := hq q (by simp)
        omega
    · subst e
      cases r with
      | nil => cases hq
      | cons q0 r =>
        rcases List.mem_cons.mp hq with e | e
        · subst e; rfl
        · have z1 := (hg q0 (by simp)).1
          have z2 := hmin q0 (by simp) (by omega)
          have z3 := (List.pairwise_cons.mp (List.pairwise_append.mp hsort).2.1).1 q e
          omega
  | succ m ih =>
    intro i b h hb
    have c : ¬ nI (8 * nq) ≤ nI i := nI_ge (by omega) (by omega)
    have e1 : ((2192 : Int32) + nI i).toNatClampNeg = 2192 + i := clA 2192 (by omega)
    have e2 : ((2432 : Int32) + nI i).toNatClampNeg = 2432 + i := clA 2432 (by omega)
    have skip : i ∉ r → ((b = -1 ∧ ∀ q ∈ r, i + 1 ≤ q) ∨ ∃ q ∈ r, b = nI q ∧ q < i + 1 ∧ ∀ q' ∈ r, q' < i + 1 → gp q ≤ gp q') := by
      intro ni
      rcases hb with ⟨e, hq⟩ | ⟨q, hq, e, hlt, hmin⟩
      · refine Or.inl ⟨e, fun q hq2 => ?_⟩
        have := hq q hq2
        have : q ≠ i := fun z => ni (z ▸ hq2)
        omega
      · refine Or.inr ⟨q, hq, e, by omega, fun q' h2 h3 => ?_⟩
        have : q' ≠ i := fun z => ni (z ▸ h2)
        exact hmin q' h2 (by omega)
    unfold lp_Mo_nextGate_6 kl_Mo_nextGate_6
    obtain ⟨x1, x2, x3, x4⟩ := hR.2.1 i (by omega)
    rw [e8c h2, if_neg c, if_neg c, e1, e2, nI_1, x1, nI_l (show s < 2 ^ 31 by omega), lN_1]
    have k0 := count_k (τ := τ) (k := 2) (by decide)
    have v1 := inA 2192 (i := i) (by omega)
    have v2 := inA 2432 (i := i) (by omega)
    by_cases cs : gs i = s + 1
    · have c2 : lg_cmp (lN (gs i)) (lN (s + 1)) = 0 := cmp0.mpr (by rw [cs])
      obtain ⟨y1, y2, -⟩ := x4 (by omega)
      have him := (hmem i).mpr cs
      rw [if_pos c2, if_pos c2, y1]
      by_cases ck : kyo gp pre < lN (gp i)
      · have ck' : 0 < lg_cmp (lN (gp i)) (kyo gp pre) := cmp_gt.mpr ck
        rw [if_pos ck', if_pos ck']
        have hir : i ∈ r := by
          rcases List.mem_append.mp him with z | z
          · have := kyo_pre hsort hbd z
            exact absurd ck (Int64.not_lt.mpr this)
          · exact z
        rcases hb with ⟨e, hq⟩ | ⟨q, hq, e, hlt, hmin⟩
        · subst e
          rw [if_pos rfl, if_pos rfl]
          obtain ⟨i1, i2⟩ := ih (i + 1) (nI i) (by omega) (Or.inr ⟨i, hir, rfl, by omega, fun q' h2 h3 => by
            have := hq q' h2
            have : q' = i := by omega
            rw [this]; exact Nat.le_refl _⟩)
          exact ⟨i1, k0, v1, v2, i2⟩
        · subst e
          obtain ⟨w1, w2, w3⟩ := hg q (List.mem_append_right _ hq)
          have e3 : ((2432 : Int32) + nI q).toNatClampNeg = 2432 + q := clA 2432 (by omega)
          have nb : ¬ nI q = -1 := nI_m1 (by omega)
          rw [if_neg nb, if_neg nb, e3, w2]
          have v3 := inA 2432 (i := q) (by omega)
          by_cases c4 : gp q ≤ gp i
          · have c5 : 0 ≤ lg_cmp (lN (gp i)) (lN (gp q)) := cmp_ge.mpr ((lN_le (by omega) (by omega)).mpr c4)
            rw [if_pos c5, if_pos c5]
            obtain ⟨i1, i2⟩ := ih (i + 1) (nI q) (by omega) (Or.inr ⟨q, hq, rfl, by omega, fun q' h2 h3 => by
              by_cases z : q' = i
              · rw [z]; exact c4
              · exact hmin q' h2 (by omega)⟩)
            exact ⟨i1, k0, v1, v2, v2, v3, i2⟩
          · have c5 : ¬ 0 ≤ lg_cmp (lN (gp i)) (lN (gp q)) := fun z => c4 ((lN_le (by omega) (by omega)).mp (cmp_ge.mp z))
            rw [if_neg c5, if_neg c5]
            obtain ⟨i1, i2⟩ := ih (i + 1) (nI i) (by omega) (Or.inr ⟨i, hir, rfl, by omega, fun q' h2 h3 => by
              by_cases z : q' = i
              · rw [z]; exact Nat.le_refl _
              · have := hmin q' h2 (by omega)
                omega⟩)
            exact ⟨i1, k0, v1, v2, v2, v3, i2⟩
      · have ck' : ¬ 0 < lg_cmp (lN (gp i)) (kyo gp pre) := fun z => ck (cmp_gt.mp z)
        rw [if_neg ck', if_neg ck']
        obtain ⟨i1, i2⟩ := ih (i + 1) b (by omega) (skip fun z => ck (kyo_r hsort hbd z))
        exact ⟨i1, k0, v1, v2, i2⟩
    · have c2 : ¬ lg_cmp (lN (gs i)) (lN (s + 1)) = 0 := fun z => cs ((lN_eq (by omega) (by omega)).mp (cmp0.mp z))
      rw [if_neg c2, if_neg c2]
      obtain ⟨i1, i2⟩ := ih (i + 1) b (by omega) (skip fun z => cs ((hmem i).mp (List.mem_append_right _ z)))
      exact ⟨i1, k0, v1, i2⟩
theorem nextG_eq (hR : R4 ns nq key lt gc gs gp gl L7 L8 L9 L10 L11 (yL τ 0)) (h2 : yL τ 0 2 = lN nq) {s : Nat} (hs : s < 24) {pre r : List Nat} (hpl : gl s = pre ++ r) : m_Mo_nextGate τ (nI s) (kyo gp pre) = hdI r ∧ k_Mo_nextGate τ (nI s) (kyo gp pre) := by
  have hnq := hR.2.2.2.2.1
  unfold m_Mo_nextGate k_Mo_nextGate
  rw [e8c h2, nI_clamp (by omega)]
  have := nextG_loop hR h2 hs hpl (8 * nq) 0 (-1) (by omega) (Or.inl ⟨rfl, fun q _ => Nat.zero_le q⟩)
  rw [nI_0] at this; exact this
end NG
