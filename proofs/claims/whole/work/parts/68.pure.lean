theorem gl_count {gs : Nat → Nat} {n s : Nat} {l : List Nat} (hn : l.Nodup) (hm : ∀ k, k ∈ l ↔ gs k = s + 1) (hb : ∀ k, gs k = s + 1 → k < n) : (List.range' 0 n).countP (fun k => gs k == s + 1) = l.length := by
  rw [List.countP_eq_length_filter]
  apply List.Perm.length_eq
  rw [List.perm_ext_iff_of_nodup _ hn]
  · intro k
    rw [List.mem_filter, List.mem_range', hm k]
    constructor
    · rintro ⟨-, h⟩; simpa using h
    · intro h; exact ⟨⟨k, hb k h, by omega⟩, by simpa using h⟩
  · exact (List.nodup_range' (step := 1) (by decide)).sublist List.filter_sublist
section GO
variable {ns nq key : Nat} {lt gc gs gp : Nat → Nat} {gl : Nat → List Nat} {L7 L8 L9 L10 L11 : Nat → Int64} {τ : SM}
theorem gl_nodup {N : Nat → Int64} (h : R4 ns nq key lt gc gs gp gl L7 L8 L9 L10 L11 N) {s : Nat} (hs : s < 24) : (gl s).Nodup :=
  (h.2.2.2.1 s hs).2.2.2.2.imp fun {a b} hab e => by rw [e] at hab; omega
theorem gs_lt {N : Nat → Int64} (h : R4 ns nq key lt gc gs gp gl L7 L8 L9 L10 L11 N) {k : Nat} (hk : gs k ≠ 0) : k < 8 * nq := Nat.lt_of_not_le fun z => hk (h.2.2.1 k z).1
theorem e8c (h2 : yL τ 0 2 = lN nq) : (8 : Int32) * m_Mo_count τ 2 = nI (8 * nq) := by
  rw [show m_Mo_count τ 2 = nI nq from count_eq (k := 2) (by omega) h2]
  exact pk_mul 8 nq
theorem gatesOn_l (h : R4 ns nq key lt gc gs gp gl L7 L8 L9 L10 L11 (yL τ 0)) (h2 : yL τ 0 2 = lN nq) {s : Nat} (hs : s < 24) : ∀ (m i v : Nat), i + m = 8 * nq → lp_Mo_gatesOn_4 (m + 1) τ (nI s) (nI v) (nI i) = nI (v + (List.range' i m).countP (fun k => gs k == s + 1)) ∧ kl_Mo_gatesOn_4 (m + 1) τ (nI s) (nI v) (nI i) := by
  have hq := h.2.2.2.2.1
  intro m
  induction m with
  | zero =>
    intro i v hi
    unfold lp_Mo_gatesOn_4 kl_Mo_gatesOn_4
    have c : nI (8 * nq) ≤ nI i := nI_le (by omega) (by omega)
    rw [e8c h2, if_pos c, if_pos c]
    exact ⟨rfl, count_k (k := 2) (by decide), trivial⟩
  | succ m ih =>
    intro i v hi
    unfold lp_Mo_gatesOn_4 kl_Mo_gatesOn_4
    have c : ¬ nI (8 * nq) ≤ nI i := nI_ge (by omega) (by omega)
    have e1 : ((2192 : Int32) + nI i).toNatClampNeg = 2192 + i := clA 2192 (by omega)
    obtain ⟨x1, x2, x3, -⟩ := h.2.1 i (by omega)
    have hns := h.2.2.2.2.2.1
    rw [e8c h2, if_neg c, if_neg c, e1, x1, nI_l (show s < 2 ^ 31 by omega), lN_1, List.range'_succ, List.countP_cons]
    have hz : nI v + 0 = nI v := Int32.add_zero _
    by_cases e : gs i = s + 1
    · have c2 : lg_cmp (lN (gs i)) (lN (s + 1)) = 0 := cmp0.mpr (by rw [e])
      rw [if_pos c2, if_pos c2, nI_1, nI_1]
      obtain ⟨i1, i2⟩ := ih (i + 1) (v + 1) (by omega)
      refine ⟨?_, count_k (k := 2) (by decide), inA 2192 (by omega), i2⟩
      rw [i1, e, if_pos (by simp)]
      congr 1; omega
    · have c2 : ¬ lg_cmp (lN (gs i)) (lN (s + 1)) = 0 := fun z => e ((lN_eq (by omega) (by omega)).mp (cmp0.mp z))
      rw [if_neg c2, if_neg c2, nI_1, hz]
      obtain ⟨i1, i2⟩ := ih (i + 1) v (by omega)
      refine ⟨?_, count_k (k := 2) (by decide), inA 2192 (by omega), i2⟩
      rw [i1, if_neg (by simpa using e)]; rfl
theorem gatesOn_eq (h : R4 ns nq key lt gc gs gp gl L7 L8 L9 L10 L11 (yL τ 0)) (h2 : yL τ 0 2 = lN nq) {s : Nat} (hs : s < 24) : m_Mo_gatesOn τ (nI s) = nI (gl s).length ∧ k_Mo_gatesOn τ (nI s) := by
  have hq := h.2.2.2.2.1
  unfold m_Mo_gatesOn k_Mo_gatesOn
  rw [e8c h2, nI_clamp (by omega)]
  obtain ⟨l1, l2⟩ := gatesOn_l h h2 hs (8 * nq) 0 0 (by omega)
  rw [nI_0] at l1 l2
  refine ⟨?_, l2⟩
  rw [l1, gl_count (gl_nodup h hs) (h.2.2.2.1 s hs).2.2.2.1 (fun k hk => gs_lt h (by omega)), Nat.zero_add]
end GO
section GC
variable {c : Nat} {A : AS} {σ : SC} {τ : SM}
theorem gt_cases (h : RR c A (xL σ) (yL τ 0)) {q : Nat} (hq : q < aN A 2) (hp : m_Mo_isPart τ (nI q) = true) (hk : k_Mo_isPart τ (nI q)) (x : Int32) : (m_ST_needGate σ (nI q) x = none ∧ m_Mo_isGate τ (nI q) x = false ∧ k_Mo_isGate τ (nI q) x) ∨ ∃ g, g < aF A 6 q ∧ g < 8 ∧ x = nI g ∧ m_ST_needGate σ (nI q) x = some () ∧ m_Mo_isGate τ (nI q) x = true ∧ k_Mo_isGate τ (nI q) x := by
  have b := h.1.2.2.1.2.2
  obtain ⟨y1, y2, y3, y4, y5, y6, y7⟩ := h.2.2.2.2.1.1 q hq
  unfold m_ST_needGate m_Mo_isGate k_Mo_isGate m_Parts_gateCount
  rw [hp, if_neg bt, if_neg bt, at_in (k := 8) (show q < 30 by omega), y6, lN_i]
  have e1 : ((2162 : Int32) + nI q).toNatClampNeg = 2162 + q := clA 2162 (by omega)
  rw [e1, y7]
  rcases ix_cases x (n := aF A 6 q) (by omega) with z | ⟨z, y⟩ | ⟨j, hj, e, z, y⟩
  · left; rw [if_pos z, if_pos z, if_pos z]; exact ⟨rfl, rfl, hk, trivial⟩
  · left
    obtain ⟨j, hj, rfl⟩ := nI_of z
    have hjg := (nI_leI (by omega) hj).mp y
    have c1 : ¬ nI j < nI (aF A 6 q) := nI_nlt hjg hj
    have c2 : 0 ≤ lg_cmp (lN j) (lN (aF A 6 q)) := cmp_ge.mpr ((lN_le (by omega) hj).mpr hjg)
    rw [nI_l hj, if_neg z, if_neg z, if_neg z, if_neg c1, if_pos c2, if_pos c2]
    exact ⟨rfl, rfl, hk, inA 2162 (by omega), trivial⟩
  · right
    subst e
    have c1 : nI j < nI (aF A 6 q) := nI_lt hj (by omega)
    have c2 : ¬ 0 ≤ lg_cmp (lN j) (lN (aF A 6 q)) := fun w => by have := (lN_le (by omega) (by omega)).mp (cmp_ge.mp w); omega
    rw [nI_l (show j < 2 ^ 31 by omega), if_neg z, if_neg z, if_neg z, if_pos c1, if_neg c2, if_neg c2]
    exact ⟨j, hj, by omega, rfl, rfl, rfl, hk, inA 2162 (by omega), trivial⟩
theorem isGate_no {x : Int32} (hp : m_Mo_isPart τ x = false) (hk : k_Mo_isPart τ x) (y : Int32) : m_Mo_isGate τ x y = false ∧ k_Mo_isGate τ x y := by
  unfold m_Mo_isGate k_Mo_isGate
  rw [hp, if_pos bf, if_pos bf]
  exact ⟨rfl, hk, trivial⟩
theorem sheetOfGate_eq (h : RR c A (xL σ) (yL τ 0)) {q g : Nat} (hq : q < aN A 2) (hg : g < 8) : m_Parts_sheetOfGate σ (nI q) (nI g) = nI (aF A 7 (8 * q + g)) - 1 := by
  have b := h.1.2.2.1.2.2
  unfold m_Parts_sheetOfGate
  have : nI q * 8 + nI g = nI (8 * q + g) := by
    show nI q * nI 8 + nI g = _
    rw [pk_mul, nI_add, Nat.mul_comm]
  rw [this, at_in (k := 9) (show 8 * q + g < 240 by omega), (h.2.2.2.2.1.2.1 (8 * q + g) (by omega)).2.1, lN_p32]
end GC
theorem sub1_m1 {n : Nat} (h : n < 2 ^ 31) : nI n - 1 = -1 ↔ n = 0 := by
  cases n with
  | zero => exact ⟨fun _ => rfl, fun _ => by decide⟩
  | succ n =>
    have : nI (n + 1) - 1 = nI n := nI_pred n
    rw [this]
    exact ⟨fun w => absurd w (nI_m1 (by omega)), fun w => by omega⟩
/-- the reference lays a gate -/
theorem putGate_M {τ : SM} {k s key : Nat} (hk : k < 240) (hs : s < 24) (h6 : yL τ 0 6 = lN key) : (∀ τ0, BG τ0 τ → BG τ0 (m_Mo_putGate τ (nI k) (nI s))) ∧ yL (m_Mo_putGate τ (nI k) (nI s)) 0 (2192 + k) = lN (s + 1) ∧ yL (m_Mo_putGate τ (nI k) (nI s)) 0 (2432 + k) = lN key ∧ yL (m_Mo_putGate τ (nI k) (nI s)) 0 6 = lN (key + 1) ∧
    (∀ i, i ≠ 6 → i ≠ 2192 + k → i ≠ 2432 + k → yL (m_Mo_putGate τ (nI k) (nI s)) 0 i = yL τ 0 i) ∧ k_Mo_putGate τ (nI k) (nI s) := by
  unfold m_Mo_putGate k_Mo_putGate
  have e1 : ((2192 : Int32) + nI k).toNatClampNeg = 2192 + k := clA 2192 (by omega)
  have e2 : ((2432 : Int32) + nI k).toNatClampNeg = 2432 + k := clA 2432 (by omega)
  have e3 : yL (wL τ 0 (2192 + k) (lN (s + 1))) 0 6 = lN key := by rw [yL_wL, if_neg (by omega)]; exact h6
  have e4 : yL (wL (wL τ 0 (2192 + k) (lN (s + 1))) 0 (2432 + k) (lN key)) 0 6 = lN key := by rw [yL_wL, if_neg (by omega)]; exact e3
  rw [e1, e2, int6, nI_l (show s < 2 ^ 31 by omega), lN_1, e3, e4, lN_1]
  have i6 : vp_in 6 (lnML 0) := inL 6 (by omega)
  refine ⟨fun τ0 hb => ((hb.l _ _).l _ _).l _ _, ?_, ?_, ?_, fun i w1 w2 w3 => ?_, inA 2192 (by omega), i6, inA 2432 (by omega), i6, i6, trivial⟩
  · rw [yL_wL, if_neg (by omega), yL_wL, if_neg (by omega), yL_wL, if_pos ⟨rfl, rfl⟩]
  · rw [yL_wL, if_neg (by omega), yL_wL, if_pos ⟨rfl, rfl⟩]
  · rw [yL_wL, if_pos ⟨rfl, rfl⟩]
  · rw [yL_wL, if_neg (by omega), yL_wL, if_neg (by omega), yL_wL, if_neg (by omega)]
/-- the class lays a gate -/
theorem layGate_C {σ : SC} {s q g n : Nat} (hs : s < 24) (hq : q < 30) (hg : g < 8) (hn : n < 20) (h11 : xL σ 11 s = lN n) : sk σ (m_Parts_layGate σ (nI s) (nI q) (nI g)) ∧ xL (m_Parts_layGate σ (nI s) (nI q) (nI g)) = sL (sL (sL (xL σ) 9 (8 * q + g) (lN s)) 10 (20 * s + n) (lN (8 * q + g))) 11 s (lN (n + 1)) := by
  unfold m_Parts_layGate m_Parts_gatesOn
  have e0 : nI q * 8 + nI g = nI (8 * q + g) := by
    show nI q * nI 8 + nI g = _
    rw [pk_mul, nI_add, Nat.mul_comm]
  have e1 : nI s * 20 + nI n = nI (20 * s + n) := by
    show nI s * nI 20 + nI n = _
    rw [pk_mul, nI_add, Nat.mul_comm]
  rw [at_in (k := 11) (show s < 24 from hs), h11, lN_i, e0, e1, nI_1, nI_l (show s < 2 ^ 31 by omega), nI_l (show 8 * q + g < 2 ^ 31 by omega), nI_l (show n + 1 < 2 ^ 31 by omega)]
  refine ⟨((rs_sk _ _ _ _).tr (rs_sk _ _ _ _)).tr (rs_sk _ _ _ _), ?_⟩
  rw [rs_xL (show s < 24 from hs), rs_xL (show 20 * s + n < 480 by omega), rs_xL (show 8 * q + g < 240 by omega)]
theorem op_gate {c : Nat} (hc : c + 1 ≤ 1000) {σ : SC} {τ : SM} (h : RL c σ τ) (x y z : Int32) : okX (c + 1) σ (m_ST_gate σ x y z) (k_Mo_gate τ x y z) (m_Mo_gate τ x y z) := by
  have hup := h.up hc
  obtain ⟨A, hA, ho, hB, hP, hl, hH⟩ := h
  have b := hA.1.1.2.2.2
  have b2 := hA.1.2.2.1.2.2
  unfold m_ST_gate m_Mo_gate k_Mo_gate m_ST_needSheet m_ST_needPart
  rcases sh_cases hA x with ⟨a1, a2, a3⟩ | ⟨s, hs, rfl, a1, a2, a3⟩
  · rw [a1, a2, if_pos bf, if_pos bf, if_pos bf]
    exact okX_no ⟨a3, trivial⟩ rfl (hup.th 1)
  · rw [a1, a2, if_neg bt, if_neg bt, if_neg bt]
    rcases qt_cases hA y with ⟨b1, b2, b3⟩ | ⟨q, hq, rfl, b1, b2, b3⟩
    · obtain ⟨n1, n2⟩ := isGate_no b2 b3 z
      rw [b1, n1, if_pos bf, if_pos bf, if_pos bf]
      exact okX_no ⟨a3, n2, trivial⟩ rfl (hup.th 1)
    · rw [b1, if_neg bt]
      rcases gt_cases hA hq b2 b3 z with ⟨d1, d2, d3⟩ | ⟨g, hg, hg8, rfl, d1, d2, d3⟩
      · rw [d1, d2, if_pos bf, if_pos bf]
        exact okX_no ⟨a3, d3, trivial⟩ rfl (hup.th 1)
      · rw [d1, d2, if_neg bt, if_neg bt, g8_cl (by omega) hg8, yL_wn]
        have hR4 := hA.2.2.2.2.1
        obtain ⟨x1, x2, x3, -⟩ := hR4.2.1 (8 * q + g) (by omega)
        obtain ⟨y1, y2, -⟩ := hR4.2.2.2.1 s (by omega)
        obtain ⟨o1, o2⟩ := gatesOn_eq (τ := wn τ 0 0) (s := s) hR4 hA.1.2.2.1.2.1 (by omega)
        rw [show 2192 + 8 * q + g = 2192 + (8 * q + g) by omega, x1, o1]
        show okX (c + 1) σ (if m_Parts_sheetOfGate σ (nI q) (nI g) = -1 then if m_Parts_gatesOn σ (nI s) < 20 then some (true, m_Journal_keep (m_Parts_layGate σ (nI s) (nI q) (nI g))) else some (false, σ) else some (false, σ)) _ _
        rw [sheetOfGate_eq hA hq hg8]
        have eo : m_Parts_gatesOn σ (nI s) = nI (aG A s).length := by unfold m_Parts_gatesOn; rw [at_in (k := 11) (show s < 24 by omega), y1, lN_i]
        rw [eo]
        by_cases e0 : aF A 7 (8 * q + g) = 0
        · have c0 : lg_cmp (lN (aF A 7 (8 * q + g))) 0 = 0 := cmp0.mpr (by rw [e0]; decide)
          rw [if_pos ((sub1_m1 (by omega)).mpr e0), if_pos c0, if_pos c0]
          by_cases e20 : (aG A s).length = 20
          · have w1 : ¬ nI (aG A s).length < 20 := by rw [e20]; decide
            have w2 : nI (aG A s).length = 20 := by rw [e20]; rfl
            rw [if_neg w1, if_pos w2, if_pos w2]
            exact okX_mk ⟨a3, d3, g8_in (by omega) hg8, o2, trivial⟩ rfl rfl (hup.th 0)
          · have w1 : nI (aG A s).length < 20 := nI_lt (b := 20) (by omega) (by decide)
            have w2 : ¬ nI (aG A s).length = 20 := fun w => e20 ((nI_eq (b := 20) (by omega) (by decide)).mp w)
            have ek : (8 : Int32) * nI q + nI g = nI (8 * q + g) := by
              show nI 8 * nI q + nI g = _
              rw [pk_mul, nI_add]
            rw [if_pos w1, if_neg w2, if_neg w2, ek]
            obtain ⟨g1, g2, g3⟩ := BG_begin τ
            generalize m_Mo_begin (wn τ 0 0) = τb at g1 g2 g3 ⊢
            have ky := key30 hA
            obtain ⟨m1, m2, m3, m4, m5, m6⟩ := putGate_M (τ := τb) (k := 8 * q + g) (s := s) (by omega) (by omega) (by rw [g2]; exact hA.1.2.2.2.2.2.2.1)
            obtain ⟨p1, p2⟩ := layGate_C (σ := σ) (s := s) (q := q) (g := g) (by omega) (by omega) hg8 (by omega) y1
            generalize m_Mo_putGate τb (nI (8 * q + g)) (nI s) = Z at m1 m2 m3 m4 m5 ⊢
            generalize m_Parts_layGate σ (nI s) (nI q) (nI g) = Y at p1 p2 ⊢
            obtain ⟨k1, k2, k3, k4⟩ := kept_op hc (A' := (va_up (aN A) 6 (aN A 6 + 1), va_up (va_up (aF A) 7 (va_up (aF A 7) (8 * q + g) (s + 1))) 8 (va_up (aF A 8) (8 * q + g) (aN A 6)), aP A, va_up (aG A) s (aG A s ++ [8 * q + g]))) hA ho hB hl hH p1 (m1 τ g1) (by
              rw [p2]
              obtain ⟨h0, h1, h2, h3, h4, h5, h6, h7⟩ := hA.up hc
              have hr : ∀ j, j ≠ 9 → j ≠ 10 → j ≠ 11 → sL (sL (sL (xL σ) 9 (8 * q + g) (lN s)) 10 (20 * s + (aG A s).length) (lN (8 * q + g))) 11 s (lN ((aG A s).length + 1)) j = xL σ j := fun j w1 w2 w3 => by rw [sL_row w3, sL_row w2, sL_row w1]
              have r9 : sL (sL (sL (xL σ) 9 (8 * q + g) (lN s)) 10 (20 * s + (aG A s).length) (lN (8 * q + g))) 11 s (lN ((aG A s).length + 1)) 9 (8 * q + g) = lN s := by rw [sL_row (by decide), sL_row (by decide), sL_same]
              have r9' : ∀ j, j ≠ 8 * q + g → sL (sL (sL (xL σ) 9 (8 * q + g) (lN s)) 10 (20 * s + (aG A s).length) (lN (8 * q + g))) 11 s (lN ((aG A s).length + 1)) 9 j = xL σ 9 j := fun j hj => by rw [sL_row (by decide), sL_row (by decide), sL_cell hj]
              have r10 : sL (sL (sL (xL σ) 9 (8 * q + g) (lN s)) 10 (20 * s + (aG A s).length) (lN (8 * q + g))) 11 s (lN ((aG A s).length + 1)) 10 (20 * s + (aG A s).length) = lN (8 * q + g) := by rw [sL_row (by decide), sL_same]
              have r10' : ∀ j, j ≠ 20 * s + (aG A s).length → sL (sL (sL (xL σ) 9 (8 * q + g) (lN s)) 10 (20 * s + (aG A s).length) (lN (8 * q + g))) 11 s (lN ((aG A s).length + 1)) 10 j = xL σ 10 j := fun j hj => by rw [sL_row (by decide), sL_cell hj, sL_row (by decide)]
              have r11 : sL (sL (sL (xL σ) 9 (8 * q + g) (lN s)) 10 (20 * s + (aG A s).length) (lN (8 * q + g))) 11 s (lN ((aG A s).length + 1)) 11 s = lN ((aG A s).length + 1) := sL_same _ _ _ _
              have r11' : ∀ j, j ≠ s → sL (sL (sL (xL σ) 9 (8 * q + g) (lN s)) 10 (20 * s + (aG A s).length) (lN (8 * q + g))) 11 s (lN ((aG A s).length + 1)) 11 j = xL σ 11 j := fun j hj => by rw [sL_cell hj, sL_row (by decide), sL_row (by decide)]
              have hN0 : ∀ i, i ≠ 6 → i < 2132 ∨ 2672 ≤ i → yL Z 0 i = yL τ 0 i := fun i w1 w2 => by rw [m5 i w1 (by omega) (by omega), g2]
              generalize sL (sL (sL (xL σ) 9 (8 * q + g) (lN s)) 10 (20 * s + (aG A s).length) (lN (8 * q + g))) 11 s (lN ((aG A s).length + 1)) = L' at hr r9 r9' r10 r10' r11 r11' ⊢
              generalize yL Z 0 = N' at m2 m3 m4 m5 hN0 ⊢
              have hN : ∀ i, i ≠ 6 → i < 2132 ∨ 2672 ≤ i → N' i = yL τ 0 i := hN0
              have q0 : R0 (va_up (aN A) 6 (aN A 6 + 1)) (c + 1) L' N' := by
                unfold R0
                rw [hr 0 (by decide) (by decide) (by decide), hr 6 (by decide) (by decide) (by decide), hr 12 (by decide) (by decide) (by decide), hr 18 (by decide) (by decide) (by decide), hN 0 (by omega) (by omega), hN 1 (by omega) (by omega), hN 2 (by omega) (by omega), hN 3 (by omega) (by omega), hN 4 (by omega) (by omega), hN 5 (by omega) (by omega), m4]
                have hk6 := hA.1.2.2.2.2.2.2.2.1
                exact ⟨h0.1, h0.2.1, h0.2.2.1, h0.2.2.2.1, h0.2.2.2.2.1, h0.2.2.2.2.2.1, rfl, show aN A 6 + 1 ≤ 200 * (c + 1) by omega, hc⟩
              have q4 := R4_gate (L9' := L' 9) (L10' := L' 10) (L11' := L' 11) (N' := N') h4 hs hq hg e0 (by omega) (by omega) r9 r9' r10 r10' r11 r11' m2 m3 (fun i w1 w2 w3 w4 => by rw [m5 i (by omega) w3 w4, g2])
              rw [← hr 7 (by decide) (by decide) (by decide), ← hr 8 (by decide) (by decide) (by decide)] at q4
              exact ⟨q0, (by show R1 (aN A 0) (L' 1) N'; rw [hr 1 (by decide) (by decide) (by decide)]; exact h1.cg h0.1.2.2.2 fun i _ _ => hN i (by omega) (by omega)), (by show R2 (aN A 0) (aN A 1) (aN A 6 + 1) _ _ _ _ _ _ (L' 2) (L' 3) (L' 4) N'; rw [hr 2 (by decide) (by decide) (by decide), hr 3 (by decide) (by decide) (by decide), hr 4 (by decide) (by decide) (by decide)]; exact (h2.mono (by omega) (by omega) (by omega) (by omega)).cg fun i _ _ => hN i (by omega) (by omega)), (by show R3 (aN A 1) _ (L' 5) N'; rw [hr 5 (by decide) (by decide) (by decide)]; exact h3.cg fun i _ _ => hN i (by omega) (by omega)), q4, (by show R5 (aN A 3) (L' 13) N'; rw [hr 13 (by decide) (by decide) (by decide)]; exact h5.cg h0.2.2.2.1.2.2 fun i _ _ => hN i (by omega) (by omega)), (by show R6 (aN A 4) (L' 14) (L' 15) (L' 16) (L' 17) N'; rw [hr 14 (by decide) (by decide) (by decide), hr 15 (by decide) (by decide) (by decide), hr 16 (by decide) (by decide) (by decide), hr 17 (by decide) (by decide) (by decide)]; exact h6.cg h0.2.2.2.2.1.2.2 fun i _ _ => hN i (by omega) (by omega)), h7⟩) rfl
            exact okX_mk ⟨a3, d3, g8_in (by omega) hg8, o2, g3, m6, k1, trivial⟩ k3 rfl k2 k4
        · have c0 : ¬ lg_cmp (lN (aF A 7 (8 * q + g))) 0 = 0 := fun w => e0 ((lN_eq (b := 0) (by omega) (by decide)).mp (by rw [lN0]; exact cmp0.mp w))
          rw [if_neg (fun w => e0 ((sub1_m1 (by omega)).mp w)), if_neg c0, if_neg c0]
          exact okX_mk ⟨a3, d3, g8_in (by omega) hg8, trivial⟩ rfl rfl (hup.th 0)
