section NC
variable {c : Nat} {A : AS} {σ : SC} {τ : SM} {ps : List Pg}
theorem mk_le {gc gs gp : Nat → Nat} {q i P m : Nat} (hi : i < ps.length) (hl : ps.length ≤ 301) (h : mk gc gs gp ps q i P m) : m ≤ 301 := by
  refine Nat.le_of_not_lt fun z => ?_
  obtain ⟨g, -, hg⟩ := h.1 301 (by omega)
  have h1 := uc_po (ps := ps) (g := gs (8 * q + g)) (u := 301) (by omega)
  have h2 := uc_le ps (gs (8 * q + g))
  omega
theorem partAt_eq (h : RR c A (xL σ) (yL τ 0)) {s a k : Nat} (hs : s < 24) (hk : (aG A s)[a]? = some k) : m_Parts_partAt σ (nI s) (nI a) = nI (k / 8) ∧ k / 8 < aN A 2 ∧ aF A 7 k = s + 1 ∧ k < 8 * aN A 2 ∧ m_Parts_gateAt σ (nI s) (nI a) = nI k := by
  have hR := h.2.2.2.2.1
  have b2 := h.1.2.2.1.2.2
  obtain ⟨y1, y2, y3, y4, -⟩ := hR.2.2.2.1 s hs
  have hal : a < (aG A s).length := by
    rcases Nat.lt_or_ge a (aG A s).length with z | z
    · exact z
    · rw [List.getElem?_eq_none z] at hk; cases hk
  have hkm : k ∈ aG A s := List.mem_of_getElem? hk
  have hgk := (y4 k).mp hkm
  have hk8 := gs_lt hR (k := k) (by omega)
  have ei : nI s * 20 + nI a = nI (20 * s + a) := by
    show nI s * nI 20 + nI a = _
    rw [pk_mul, nI_add, Nat.mul_comm]
  have eg : m_Parts_gateAt σ (nI s) (nI a) = nI k := by
    unfold m_Parts_gateAt
    rw [ei, at_in (k := 10) (show 20 * s + a < 480 by omega), y3 a k hk, lN_i]
  refine ⟨?_, by omega, hgk, hk8, eg⟩
  unfold m_Parts_partAt
  rw [eg]
  exact pk_div (d := 8) (by omega) (by decide) (by decide)
theorem letter_eq (h : RR c A (xL σ) (yL τ 0)) {q : Nat} (hq : q < aN A 2) : m_Parts_letterOf σ (nI q) = nI (aF A 5 q) ∧ aF A 5 q < 26 := by
  have b2 := h.1.2.2.1.2.2
  obtain ⟨y1, y2, y3, y4, -⟩ := h.2.2.2.2.1.1 q hq
  unfold m_Parts_letterOf
  rw [at_in (k := 7) (show q < 30 by omega), y4, lN_i]
  exact ⟨rfl, y1⟩
theorem newU_l {L : LL} {N : Nat → Int64} (h : RR c A L N) (hl : ps.length ≤ 301) {i s part unit : Nat} (hi : i < ps.length) (hsh : shp ps i = s + 1) (hs : s < 24) (hpart : part < aN A 2) (hunit : unit < 2 ^ 30) (v1 : Int32) (m0 : Nat → Nat) : ∀ (rest pre : List Nat) (σ : SC) (m : Nat → Nat) (T cnt n : Nat), xL σ = L → aG A s = pre ++ rest → rest.length < n → MK σ m → MI A ps (aF A 5 part) i T m → (∀ k ∈ pre, aF A 8 k < T) → (∀ k ∈ rest, T ≤ aF A 8 k) → m part ≤ unit → (∀ q, m0 q ≤ m q) → cnt = sm (aF A 5) (aF A 5 part) (fun q => m q - m0 q) (aN A 2) →
    ∃ σ' m' cnt', lp_Parts_newUnitsAt_26 n σ v1 (nI part) (nI unit) (nI s) (nI (cmg ps (s + 1) i)) (nI cnt) (nI pre.length) = (nI cnt', σ') ∧ LK σ σ' ∧ MK σ' m' ∧ (∀ q, m0 q ≤ m' q) ∧ cnt' = sm (aF A 5) (aF A 5 part) (fun q => m' q - m0 q) (aN A 2) ∧
      ((m' part ≤ unit ∧ MI A ps (aF A 5 part) i (aN A 6) m') ∨ ∃ P m1, m' = va_up m1 part (m1 part + 1) ∧ m1 part = unit ∧ MI A ps (aF A 5 part) i P m1 ∧ (∀ q, m0 q ≤ m1 q) ∧ ∃ g, g < aF A 6 part ∧ po ps (aF A 7 (8 * part + g)) unit = i ∧ aF A 8 (8 * part + g) = P) := by
  have hR := h.2.2.2.2.1
  have b2 := h.1.2.2.1.2.2
  obtain ⟨y1, y2, y3, y4, y5⟩ := hR.2.2.2.1 s hs
  intro rest
  induction rest with
  | nil =>
    intro pre σ m T cnt n hL hgl hn hMK hMI hpre hrest hmp hm0 hcnt
    obtain ⟨n, rfl⟩ : ∃ k, n = k + 1 := ⟨n - 1, by omega⟩
    have hσ : RR c A (xL σ) (yL ((fun _ => N, fun _ _ => 0, fun _ => 0, false, 0) : SM) 0) := by rw [hL]; exact h
    have hlen : m_Parts_gatesOn σ (nI s) = nI pre.length := by
      unfold m_Parts_gatesOn; rw [at_in (k := 11) (show s < 24 from hs), hL, y1, lN_i, hgl, List.append_nil]
    unfold lp_Parts_newUnitsAt_26
    rw [hgl, List.append_nil] at y2
    rw [hlen, if_pos (nI_le (Nat.le_refl _) (by omega))]
    refine ⟨σ, m, cnt, rfl, LK_rfl σ, hMK, hm0, hcnt, Or.inl ⟨hmp, ?_⟩⟩
    have hsh' := hsh
    by_cases hT : T ≤ aN A 6
    · exact MI.gap hσ hi hsh' hs hT (fun k hk => by rw [hgl, List.append_nil] at hk; exact Or.inl (hpre k hk)) hMI
    · intro q hq hlq
      obtain ⟨w1, w2⟩ := hMI q hq hlq
      have hg := Fb_gap hσ hi hsh' hs (P := aN A 6) (P' := T) (by omega) (fun k hk => Or.inl (by
        have hgs := (y4 k).mp hk
        exact ((hR.2.1 k (gs_lt hR (by omega))).2.2.2 (by omega)).2.1))
      exact ⟨fun u hu => (hg q u).mp (w1 u hu), fun z => w2 ((hg q (m q)).mpr z)⟩
  | cons k rest ih =>
    intro pre σ m T cnt n hL hgl hn hMK hMI hpre hrest hmp hm0 hcnt
    rw [List.length_cons] at hn
    obtain ⟨n, rfl⟩ : ∃ j, n = j + 1 := ⟨n - 1, by omega⟩
    have hσ : RR c A (xL σ) (yL ((fun _ => N, fun _ _ => 0, fun _ => 0, false, 0) : SM) 0) := by rw [hL]; exact h
    have hlen : m_Parts_gatesOn σ (nI s) = nI (aG A s).length := by
      unfold m_Parts_gatesOn; rw [at_in (k := 11) (show s < 24 from hs), hL, y1, lN_i]
    have hll : pre.length < (aG A s).length := by rw [hgl, List.length_append, List.length_cons]; omega
    have hka : (aG A s)[pre.length]? = some k := by rw [hgl, List.getElem?_append_right (Nat.le_refl _)]; simp
    have hkm : k ∈ aG A s := List.mem_of_getElem? hka
    obtain ⟨e1, e2, e3, e4, -⟩ := partAt_eq hσ hs hka
    obtain ⟨f1, f2⟩ := letter_eq hσ e2
    obtain ⟨f3, f4⟩ := letter_eq hσ hpart
    have hsort := y5
    rw [hgl] at hsort
    have hs1 := List.pairwise_append.mp hsort
    have hs2 := List.pairwise_cons.mp hs1.2.1
    unfold lp_Parts_newUnitsAt_26
    rw [hlen, if_neg (nI_ge hll (by omega)), e1, f1, f3, nI_1 pre.length]
    -- up to this gate
    have hMIk : MI A ps (aF A 5 part) i (aF A 8 k) m := MI.gap hσ hi hsh hs (hrest k (by simp)) (fun k' hk' => by
      rw [hgl] at hk'
      rcases List.mem_append.mp hk' with z | z
      · exact Or.inl (hpre k' z)
      · right
        rcases List.mem_cons.mp z with w | w
        · rw [w]; exact Nat.le_refl _
        · exact Nat.le_of_lt (hs2.1 k' w)) hMI
    have hstep := MI_step hσ hi hsh hs hkm hMIk
    have hpre' : ∀ k' ∈ pre ++ [k], aF A 8 k' < aF A 8 k + 1 := fun k' hk' => by
      rcases List.mem_append.mp hk' with z | z
      · have := hs1.2.2 k' z k (by simp); omega
      · rw [List.mem_singleton.mp z]; omega
    have hrest' : ∀ k' ∈ rest, aF A 8 k + 1 ≤ aF A 8 k' := fun k' hk' => hs2.1 k' hk'
    have hgl' : aG A s = (pre ++ [k]) ++ rest := by rw [hgl, List.append_assoc]; rfl
    have hpl : (pre ++ [k]).length = pre.length + 1 := by simp
    by_cases cl : aF A 5 (k / 8) = aF A 5 part
    · rw [if_pos (by rw [cl])]
      have hmk := hMIk (k / 8) e2 cl
      have hm301 := mk_le hi hl hmk
      have hc301 : cmg ps (s + 1) i ≤ 301 := by
        have a1 := cmg_mono (ps := ps) (g := s + 1) (ps.length - i) i (by omega)
        rw [show i + (ps.length - i) = ps.length by omega, ← uc_cmg] at a1
        have := uc_le ps (s + 1)
        omega
      rw [rd_in (j := 6) (show k / 8 < 30 by omega), hMK (k / 8) (by omega)]
      by_cases cm : m (k / 8) = cmg ps (s + 1) i
      · rw [if_pos (by rw [cm])]
        rw [if_pos ⟨cl, cm⟩] at hstep
        rw [wr_in (j := 6) (show k / 8 < 30 by omega), nI_1 (cmg ps (s + 1) i), nI_1 cnt]
        have hMK' : MK (zI σ 6 (k / 8) (nI (cmg ps (s + 1) i + 1))) (va_up m (k / 8) (m (k / 8) + 1)) := fun q hq => by
          rw [xI_zI]
          by_cases e : q = k / 8
          · rw [if_pos ⟨rfl, e⟩, e, va_up_self, cm]
          · rw [if_neg (fun z => e z.2), va_up_ne _ _ e]; exact hMK q hq
        have hm0' : ∀ q, m0 q ≤ va_up m (k / 8) (m (k / 8) + 1) q := fun q => by
          by_cases e : q = k / 8
          · rw [e, va_up_self]; have := hm0 (k / 8); omega
          · rw [va_up_ne _ _ e]; exact hm0 q
        have hcnt' : cnt + 1 = sm (aF A 5) (aF A 5 part) (fun q => va_up m (k / 8) (m (k / 8) + 1) q - m0 q) (aN A 2) := by
          rw [hcnt, ← sm_up (f := fun q => m q - m0 q) cl (aN A 2) e2]
          apply sm_cg
          intro q _ _
          by_cases e : q = k / 8
          · subst e; rw [va_up_self, va_up_self]; have := hm0 (k / 8); omega
          · rw [va_up_ne _ _ e, va_up_ne _ _ e]
        have hLK := LK_z σ (k / 8) (nI (cmg ps (s + 1) i + 1))
        generalize zI σ 6 (k / 8) (nI (cmg ps (s + 1) i + 1)) = Y at hMK' hLK ⊢
        have cont : va_up m (k / 8) (m (k / 8) + 1) part ≤ unit → ∃ σ' m' cnt', lp_Parts_newUnitsAt_26 n Y v1 (nI part) (nI unit) (nI s) (nI (cmg ps (s + 1) i)) (nI (cnt + 1)) (nI (pre.length + 1)) = (nI cnt', σ') ∧ LK σ σ' ∧ MK σ' m' ∧ (∀ q, m0 q ≤ m' q) ∧ cnt' = sm (aF A 5) (aF A 5 part) (fun q => m' q - m0 q) (aN A 2) ∧
            ((m' part ≤ unit ∧ MI A ps (aF A 5 part) i (aN A 6) m') ∨ ∃ P m1, m' = va_up m1 part (m1 part + 1) ∧ m1 part = unit ∧ MI A ps (aF A 5 part) i P m1 ∧ (∀ q, m0 q ≤ m1 q) ∧ ∃ g, g < aF A 6 part ∧ po ps (aF A 7 (8 * part + g)) unit = i ∧ aF A 8 (8 * part + g) = P) := fun hle => by
          obtain ⟨σ', m', cnt', j1, j2, j3⟩ := ih (pre ++ [k]) Y (va_up m (k / 8) (m (k / 8) + 1)) (aF A 8 k + 1) (cnt + 1) n (hLK.1.trans hL) hgl' (by omega) hMK' hstep hpre' hrest' hle hm0' hcnt'
          rw [hpl] at j1
          exact ⟨σ', m', cnt', j1, hLK.tr j2, j3⟩
        by_cases cp : k / 8 = part
        · rw [if_pos (by rw [cp])]
          by_cases cu : cmg ps (s + 1) i = unit
          · rw [if_pos (by rw [cu])]
            refine ⟨Y, _, cnt + 1, rfl, hLK, hMK', hm0', hcnt', Or.inr ⟨aF A 8 k, m, by rw [cp], by rw [← cp, cm, cu], hMIk, hm0, k % 8, ?_, ?_, ?_⟩⟩
            · have := ((hR.2.1 k e4).2.2.2 (by omega)).2.2
              rw [cp] at this; exact this
            · rw [← cp, show 8 * (k / 8) + k % 8 = k by omega, e3]
              exact po_eq hi hsh cu
            · rw [← cp, show 8 * (k / 8) + k % 8 = k by omega]
          · rw [if_neg (fun z => cu ((nI_eq (by omega) (by omega)).mp z))]
            apply cont
            rw [← cp, va_up_self]
            rw [← cp] at hmp
            omega
        · rw [if_neg (fun z => cp ((nI_eq (by omega) (by omega)).mp z))]
          apply cont
          rw [va_up_ne _ _ (fun z => cp z.symm)]; exact hmp
      · rw [if_neg (fun z => cm ((nI_eq (by omega) (by omega)).mp z))]
        rw [if_neg (fun z => cm z.2)] at hstep
        obtain ⟨σ', m', cnt', j1, j2⟩ := ih (pre ++ [k]) σ m (aF A 8 k + 1) cnt n hL hgl' (by omega) hMK hstep hpre' hrest' hmp hm0 hcnt
        rw [hpl] at j1
        exact ⟨σ', m', cnt', j1, j2⟩
    · rw [if_neg (fun z => cl ((nI_eq (by omega) (by omega)).mp z))]
      rw [if_neg (fun z => cl z.1)] at hstep
      obtain ⟨σ', m', cnt', j1, j2⟩ := ih (pre ++ [k]) σ m (aF A 8 k + 1) cnt n hL hgl' (by omega) hMK hstep hpre' hrest' hmp hm0 hcnt
      rw [hpl] at j1
      exact ⟨σ', m', cnt', j1, j2⟩
/-- the first coming of a unit -/
def FP (A : AS) (ps : List Pg) (q u i P : Nat) : Prop := (∃ g, g < aF A 6 q ∧ po ps (aF A 7 (8 * q + g)) u = i ∧ aF A 8 (8 * q + g) = P) ∧ i < ps.length ∧ ¬ Fb (aF A 6) (aF A 7) (aF A 8) ps q u i P
theorem number_l {L : LL} {N : Nat → Int64} (h : RR c A L N) (hl : ps.length ≤ 301) (hs24 : ∀ (i s : Nat) (a b : Int32) (d : Nat), ps[i]? = some (s, a, b, d) → s < 24) {part unit : Nat} (hpart : part < aN A 2) (hun : unit < units A ps part) (b : Bool) : ∀ (n i : Nat) (σ : SC) (m : Nat → Nat) (v4 : Int32), xL σ = L → BK σ ps → i < ps.length → ps.length - i < n → MK σ m → MI A ps (aF A 5 part) i 0 m → m part ≤ unit → (b = false → v4 = nI (sm (aF A 5) (aF A 5 part) m (aN A 2))) →
    ∃ σ' i0 P m0 m1, LK σ σ' ∧ FP A ps part unit i0 P ∧ MI A ps (aF A 5 part) i0 0 m0 ∧ MI A ps (aF A 5 part) i0 P m1 ∧ (∀ q, m0 q ≤ m1 q) ∧ m1 part = unit ∧
      lp_Parts_numberOf_14 n σ (nI part) (nI unit) b v4 (nI i) = ((if b = true then nI (100 * i0 + (sm (aF A 5) (aF A 5 part) (fun q => m1 q - m0 q) (aN A 2) + 1)) else nI (sm (aF A 5) (aF A 5 part) m1 (aN A 2) + 1)), σ') := by
  have hR := h.2.2.2.2.1
  have b2 := h.1.2.2.1.2.2
  have hu301 := units_le A ps part
  intro n
  induction n with
  | zero => intro i σ m v4 _ _ _ hn; omega
  | succ n ih =>
    intro i σ m v4 hL hB hi hn hMK hMI hmp hv
    obtain ⟨s, pa, pb, d, hg⟩ := get4 hi
    have hs := hs24 i s pa pb d hg
    have hsh := shp_some hg
    obtain ⟨c1, -, -, -, c5⟩ := hB.2.1 i s pa pb d hg
    have ecm : (ps.take i).countP (fun x => x.1 == s) = cmg ps (s + 1) i := by unfold cmg; rw [if_neg (by omega)]; rfl
    obtain ⟨y1, y2, y3, y4, y5⟩ := hR.2.2.2.1 s hs
    have eN : m_Parts_newUnitsAt σ (nI i) (nI part) (nI unit) = lp_Parts_newUnitsAt_26 ((aG A s).length + 1) σ (nI i) (nI part) (nI unit) (nI s) (nI (cmg ps (s + 1) i)) (nI 0) (nI 0) := by
      unfold m_Parts_newUnitsAt m_Book_sheetAt m_Book_comingAt m_Parts_gatesOn
      rw [rd_in (j := 0) (show i < 301 by omega), rd_in (j := 4) (show i < 301 by omega), c1, c5, ecm, at_in (k := 11) (show s < 24 from hs), hL, y1, lN_i, nI_clamp (by omega), nI_0]
    obtain ⟨σ', m', cnt', j1, j2, j3, j4, j5, j6⟩ := newU_l h hl hi hsh hs hpart (show unit < 2 ^ 30 by omega) (nI i) m (aG A s) [] σ m 0 0 ((aG A s).length + 1) hL rfl (by omega) hMK hMI (fun k hk => by cases hk) (fun k _ => Nat.zero_le _) hmp (fun q => Nat.le_refl _) (by
      have : sm (aF A 5) (aF A 5 part) (fun q => m q - m q) (aN A 2) ≤ aN A 2 * 0 := sm_le _ fun q _ _ => by omega
      omega)
    have j1' : m_Parts_newUnitsAt σ (nI i) (nI part) (nI unit) = (nI cnt', σ') := by rw [eN]; exact j1
    unfold lp_Parts_numberOf_14 m_Book_count
    rw [hB.1, if_neg (nI_ge hi (by omega)), j1']
    have hsm : sm (aF A 5) (aF A 5 part) m (aN A 2) + sm (aF A 5) (aF A 5 part) (fun q => m' q - m q) (aN A 2) = sm (aF A 5) (aF A 5 part) m' (aN A 2) := sm_add _ fun q _ _ => j4 q
    have hrd : m_ST_read σ' 6 (nI part) = nI (m' part) := by rw [rd_in (j := 6) (show part < 30 by omega)]; exact j3 part (by omega)
    have e100 : nI i * 100 + nI cnt' = nI (100 * i + cnt') := by
      show nI i * nI 100 + nI cnt' = _
      rw [pk_mul, nI_add, Nat.mul_comm]
    rcases j6 with ⟨w1, w2⟩ | ⟨P, m1, w1, w2, w3, w4, w5⟩
    · -- not yet
      have w1' : nI (m' part) ≤ nI unit := nI_le w1 (by omega)
      have hnot : i + 1 < ps.length := by
        refine Nat.lt_of_not_le fun z => ?_
        have hex : ∃ g, g < aF A 6 part ∧ unit < uc ps (aF A 7 (8 * part + g)) := by
          have : ∀ (k g a : Nat), a ≤ unit → unit < uMx (fun g => uc ps (aF A 7 (8 * part + g))) k g a → ∃ g', g ≤ g' ∧ g' < g + k ∧ unit < uc ps (aF A 7 (8 * part + g')) := by
            intro k
            induction k with
            | zero => intro g a ha hb; exact absurd hb (by show ¬ unit < a; omega)
            | succ k ik =>
              intro g a ha hb
              by_cases y : unit < uc ps (aF A 7 (8 * part + g))
              · exact ⟨g, Nat.le_refl _, by omega, y⟩
              · obtain ⟨g', q1, q2, q3⟩ := ik (g + 1) (max a (uc ps (aF A 7 (8 * part + g)))) (by omega) hb
                exact ⟨g', by omega, by omega, q3⟩
          obtain ⟨g', q1, q2, q3⟩ := this (aF A 6 part) 0 0 (by omega) hun
          exact ⟨g', by omega, q3⟩
        obtain ⟨g, hg1, hg2⟩ := hex
        have hpo := po_uc hg2
        have hFb : Fb (aF A 6) (aF A 7) (aF A 8) ps part unit i (aN A 6) := by
          refine ⟨g, hg1, ?_⟩
          by_cases y : po ps (aF A 7 (8 * part + g)) unit = i
          · right
            refine ⟨y, ?_⟩
            have hg8 := (hR.1 part hpart).2.2.1
            have hgs : aF A 7 (8 * part + g) ≠ 0 := by
              have := (po_at hpo).1
              intro z0
              rw [y, z0] at this
              exact shp_0 hi this
            exact ((hR.2.1 (8 * part + g) (by omega)).2.2.2 hgs).2.1
          · left; omega
        have := (mk_iff hi (w2 part hpart rfl) unit).mp hFb
        omega
      have hMI' : MI A ps (aF A 5 part) (i + 1) 0 m' := fun q hq hlq => by
        obtain ⟨x1, x2⟩ := w2 q hq hlq
        have hiff : ∀ u, Fb (aF A 6) (aF A 7) (aF A 8) ps q u (i + 1) 0 ↔ Fb (aF A 6) (aF A 7) (aF A 8) ps q u i (aN A 6) := fun u => by
          constructor
          · rintro ⟨g, h1, h2⟩
            refine ⟨g, h1, ?_⟩
            by_cases y : po ps (aF A 7 (8 * q + g)) u = i
            · right
              refine ⟨y, ?_⟩
              have hg8 := (hR.1 q hq).2.2.1
              have hgs : aF A 7 (8 * q + g) ≠ 0 := fun z0 => by
                have := (po_at (ps := ps) (g := aF A 7 (8 * q + g)) (u := u) (by omega)).1
                rw [y, z0] at this
                exact shp_0 hi this
              exact ((hR.2.1 (8 * q + g) (by omega)).2.2.2 hgs).2.1
            · left; omega
          · rintro ⟨g, h1, h2⟩
            exact ⟨g, h1, Or.inl (by omega)⟩
        exact ⟨fun u hu => (hiff u).mpr (x1 u hu), fun z => x2 ((hiff (m' q)).mp z)⟩
      cases b with
      | false =>
        rw [if_pos bf]
        show ∃ σ'' i0 P m0 m1, _ ∧ _ ∧ _ ∧ _ ∧ _ ∧ _ ∧ (if m_ST_read σ' 6 (nI part) ≤ nI unit then lp_Parts_numberOf_14 n σ' (nI part) (nI unit) false (v4 + nI cnt') (nI i + 1) else (v4 + nI cnt', σ')) = _
        rw [hrd, if_pos w1', nI_1]
        obtain ⟨σ'', i0, P, m0, m1, k1, k2⟩ := ih (i + 1) σ' m' (v4 + nI cnt') (j2.1.trans hL) (hB.lk j2) hnot (by omega) j3 hMI' w1 (fun _ => by rw [hv rfl, nI_add, j5, hsm])
        exact ⟨σ'', i0, P, m0, m1, j2.tr k1, k2⟩
      | true =>
        rw [if_neg bt]
        show ∃ σ'' i0 P m0 m1, _ ∧ _ ∧ _ ∧ _ ∧ _ ∧ _ ∧ (if m_ST_read σ' 6 (nI part) ≤ nI unit then lp_Parts_numberOf_14 n σ' (nI part) (nI unit) true (nI i * 100 + nI cnt') (nI i + 1) else (nI i * 100 + nI cnt', σ')) = _
        rw [hrd, if_pos w1', nI_1]
        obtain ⟨σ'', i0, P, m0, m1, k1, k2⟩ := ih (i + 1) σ' m' (nI i * 100 + nI cnt') (j2.1.trans hL) (hB.lk j2) hnot (by omega) j3 hMI' w1 (fun z => by cases z)
        exact ⟨σ'', i0, P, m0, m1, j2.tr k1, k2⟩
    · have em : m' part = unit + 1 := by rw [w1, va_up_self, w2]
      have w1' : ¬ nI (m' part) ≤ nI unit := by rw [em]; exact nI_ge (by omega) (by omega)
      have hup1 : sm (aF A 5) (aF A 5 part) m' (aN A 2) = sm (aF A 5) (aF A 5 part) m1 (aN A 2) + 1 := by rw [w1]; exact sm_up rfl _ hpart
      have hup2 : sm (aF A 5) (aF A 5 part) (fun q => m' q - m q) (aN A 2) = sm (aF A 5) (aF A 5 part) (fun q => m1 q - m q) (aN A 2) + 1 := by
        rw [← sm_up (f := fun q => m1 q - m q) (q := part) rfl _ hpart]
        apply sm_cg
        intro q _ _
        rw [w1]
        by_cases e : q = part
        · subst e; rw [va_up_self, va_up_self]; have := w4 q; omega
        · rw [va_up_ne _ _ e, va_up_ne _ _ e]
      have hFP : FP A ps part unit i P := ⟨w5, hi, by have := (w3 part hpart rfl).2; rw [w2] at this; exact this⟩
      refine ⟨σ', i, P, m, m1, j2, hFP, hMI, w3, w4, w2, ?_⟩
      cases b with
      | false =>
        rw [if_pos bf]
        show (if m_ST_read σ' 6 (nI part) ≤ nI unit then lp_Parts_numberOf_14 n σ' (nI part) (nI unit) false (v4 + nI cnt') (nI i + 1) else (v4 + nI cnt', σ')) = _
        rw [hrd, if_neg w1', hv rfl, nI_add, j5, hsm, hup1]; rfl
      | true =>
        rw [if_neg bt]
        show (if m_ST_read σ' 6 (nI part) ≤ nI unit then lp_Parts_numberOf_14 n σ' (nI part) (nI unit) true (nI i * 100 + nI cnt') (nI i + 1) else (nI i * 100 + nI cnt', σ')) = _
        rw [hrd, if_neg w1', e100, j5, hup2]; rfl
end NC
