def okR {α : Type} (c : Nat) (σ : SC) (r : Option α) (k : Prop) (t : α × SM) : Prop := k ∧ ((r = none ∧ yn t.2 0 = 1 ∧ RL c σ t.2) ∨ ∃ v, r = some v ∧ yn t.2 0 = 0 ∧ v = t.1 ∧ RL c σ t.2)
theorem okR_no {α : Type} {c : Nat} {w : α} {σ : SC} {τ' : SM} {k : Prop} (hk : k) (h0 : yn τ' 0 = 1) (hr : RL c σ τ') : okR c σ none k (w, τ') := ⟨hk, Or.inl ⟨rfl, h0, hr⟩⟩
theorem okR_mk {α : Type} {c : Nat} {v w : α} {σ : SC} {τ' : SM} {k : Prop} (hk : k) (h0 : yn τ' 0 = 0) (he : v = w) (hr : RL c σ τ') : okR c σ (some v) k (w, τ') := ⟨hk, Or.inr ⟨v, rfl, h0, he, hr⟩⟩
theorem bt : ¬ bi true = 0 := by decide
theorem bf : bi false = 0 := rfl
theorem int5 : (5 : Int32).toNatClampNeg = 5 := by decide
theorem rule_core {c : Nat} (hc : c + 1 ≤ 1000) {σ : SC} {τ : SM} (h : RL c σ τ) {x : Int32} (hx : x = 0 ∨ x = 1) : okX (c + 1) σ (if (m_Row_at σ 18 0) = x then some (false, σ) else some (true, (m_Journal_keep (m_Row_set σ 18 0 x.toInt64))))
    ((vp_in 5 (lnML 0)) ∧ if (lg_cmp (yL (wn τ 0 0) 0 (5 : Int32).toNatClampNeg) x.toInt64) = 0 then True else (k_Mo_begin (wn τ 0 0)) ∧ (vp_in 5 (lnML 0)) ∧ (k_Mo_done (wL (m_Mo_begin (wn τ 0 0)) 0 ((5 : Int32).toNatClampNeg) x.toInt64)) ∧ True)
    (if (lg_cmp (yL (wn τ 0 0) 0 (5 : Int32).toNatClampNeg) x.toInt64) = 0 then (false, (wn τ 0 0)) else (true, (m_Mo_done (wL (m_Mo_begin (wn τ 0 0)) 0 ((5 : Int32).toNatClampNeg) x.toInt64)))) := by
  have hup := h.up hc
  obtain ⟨A, hA, ho, hB, hP, hl, hH⟩ := h
  obtain ⟨g1, g2, g3⟩ := BG_begin τ
  generalize m_Mo_begin (wn τ 0 0) = τb at g1 g2 g3 ⊢
  rw [int5, yL_wn]
  have e1 : m_Row_at σ 18 0 = (yL τ 0 5).toInt32 := by
    have := at_in (σ := σ) (k := 18) (i := 0) (by decide)
    rw [hA.1.2.2.2.2.2.1.1] at this; exact this
  have h5 := hA.1.2.2.2.2.2.1.2
  have ei : ((yL τ 0 5).toInt32 = x) ↔ yL τ 0 5 = x.toInt64 := by
    rcases h5 with e | e <;> rcases hx with e2 | e2 <;> rw [e, e2] <;> decide
  have i5 : vp_in 5 (lnML 0) := inL 5 (by omega)
  rw [e1]
  by_cases c1 : yL τ 0 5 = x.toInt64
  · rw [if_pos (ei.mpr c1), if_pos (cmp0.mpr c1), if_pos (cmp0.mpr c1)]
    exact okX_mk ⟨i5, trivial⟩ rfl rfl (hup.th 0)
  · rw [if_neg (fun z => c1 (ei.mp z)), if_neg (fun z => c1 (cmp0.mp z)), if_neg (fun z => c1 (cmp0.mp z))]
    have bg := g1.l 5 x.toInt64
    have eN : yL (wL τb 0 5 x.toInt64) 0 = vp_updL (yL τ 0) 5 x.toInt64 := by rw [yL_wL0, g2]
    have eL : xL (m_Row_set σ 18 0 x.toInt64) = sL (xL σ) 18 0 x.toInt64 := rs_xL (i := 0) (by decide)
    obtain ⟨k1, k2, k3, k4⟩ := kept_op hc (A' := A) hA ho hB hl hH (rs_sk σ 18 0 _) bg (by
      rw [eN, eL]
      obtain ⟨h0, h1, h2, h3, h4, h5, h6, h7⟩ := hA.up hc
      have hr : ∀ j, j ≠ 18 → sL (xL σ) 18 0 x.toInt64 j = xL σ j := fun j hj => sL_row hj
      have hN : ∀ j, j ≠ 5 → vp_updL (yL τ 0) 5 x.toInt64 j = yL τ 0 j := fun j hj => vu hj
      have s18 : sL (xL σ) 18 0 x.toInt64 18 0 = x.toInt64 := sL_same _ _ _ _
      have n5 : vp_updL (yL τ 0) 5 x.toInt64 5 = x.toInt64 := pk_uLs
      generalize sL (xL σ) 18 0 x.toInt64 = L' at hr s18 ⊢
      generalize vp_updL (yL τ 0) 5 x.toInt64 = N' at hN n5 ⊢
      exact ⟨(by unfold R0; rw [hr 0 (by decide), hr 6 (by decide), hr 12 (by decide), s18, n5, hN 0 (by decide), hN 1 (by decide), hN 2 (by decide), hN 3 (by decide), hN 4 (by decide), hN 6 (by decide)]; refine ⟨h0.1, h0.2.1, h0.2.2.1, h0.2.2.2.1, h0.2.2.2.2.1, ⟨rfl, ?_⟩, h0.2.2.2.2.2.2⟩; rcases hx with e | e <;> rw [e] <;> decide), (by show R1 (aN A 0) (L' 1) N'; rw [hr 1 (by decide)]; exact h1.cg h0.1.2.2.2 fun i _ _ => hN i (by omega)), (by show R2 (aN A 0) (aN A 1) (aN A 6) _ _ _ _ _ _ (L' 2) (L' 3) (L' 4) N'; rw [hr 2 (by decide), hr 3 (by decide), hr 4 (by decide)]; exact h2.cg fun i _ _ => hN i (by omega)), (by show R3 (aN A 1) _ (L' 5) N'; rw [hr 5 (by decide)]; exact h3.cg fun i _ _ => hN i (by omega)), (by show R4 (aN A 0) (aN A 2) (aN A 6) _ _ _ _ _ (L' 7) (L' 8) (L' 9) (L' 10) (L' 11) N'; rw [hr 7 (by decide), hr 8 (by decide), hr 9 (by decide), hr 10 (by decide), hr 11 (by decide)]; exact h4.cg fun i _ _ => hN i (by omega)), (by show R5 (aN A 3) (L' 13) N'; rw [hr 13 (by decide)]; exact h5.cg h0.2.2.2.1.2.2 fun i _ _ => hN i (by omega)), (by show R6 (aN A 4) (L' 14) (L' 15) (L' 16) (L' 17) N'; rw [hr 14 (by decide), hr 15 (by decide), hr 16 (by decide), hr 17 (by decide)]; exact h6.cg h0.2.2.2.2.1.2.2 fun i _ _ => hN i (by omega)), h7⟩) rfl
    exact okX_mk ⟨i5, g3, i5, k1, trivial⟩ k3 rfl k2 k4
theorem op_rule {c : Nat} (hc : c + 1 ≤ 1000) {σ : SC} {τ : SM} (h : RL c σ τ) (x : Int32) : okX (c + 1) σ (m_ST_rule σ x) (k_Mo_rule τ x) (m_Mo_rule τ x) := by
  unfold m_ST_rule m_Mo_rule k_Mo_rule
  by_cases c0 : x = 0
  · rw [if_pos c0, if_pos c0, if_pos c0]
    exact rule_core hc h (Or.inl c0)
  · rw [if_neg c0, if_neg c0, if_neg c0]
    by_cases c1 : x = 1
    · rw [if_pos c1, if_pos c1, if_pos c1]
      exact rule_core hc h (Or.inr c1)
    · rw [if_neg c1, if_neg c1, if_neg c1]
      exact okX_no trivial rfl ((h.up hc).th 1)
theorem op_port {c : Nat} (hc : c + 1 ≤ 1000) {σ : SC} {τ : SM} (h : RL c σ τ) (x y : Int32) : okX (c + 1) σ (m_ST_port σ x y) (k_Mo_port τ x y) (m_Mo_port τ x y) := by
  have hup := h.up hc
  obtain ⟨A, hA, ho, hB, hP, hl, hH⟩ := h
  have b := hA.1.1.2.2.2
  unfold m_ST_port m_Mo_port k_Mo_port m_ST_needSheet
  rcases sh_cases hA x with ⟨a1, a2, a3⟩ | ⟨s, hs, rfl, a1, a2, a3⟩
  · rw [a1, a2, if_pos bf, if_pos bf, if_pos bf]
    exact okX_no ⟨a3, trivial⟩ rfl (hup.th 1)
  · rw [a1, a2, if_neg bt, if_neg bt, if_neg bt]
    rcases nm_cases σ y with ⟨b1, b2, b3⟩ | ⟨n, hn, rfl, b1, b2, b3⟩
    · rw [b1, b2, if_pos bf, if_pos bf]
      exact okX_no ⟨a3, b3, trivial⟩ rfl (hup.th 1)
    · rw [b1, b2, if_neg bt, if_neg bt, nI_l (show s < 2 ^ 31 by omega)]
      obtain ⟨q1, q2⟩ := hasName_eq (τ := wn τ 0 0) (s := s) (n := n) (by omega) hn
      rw [q1, yL_wn]
      show okX (c + 1) σ (if bi (m_Sheets_tells σ (nI s) (nI n)) = 0 then some (true, m_Journal_keep (m_Sheets_addName σ (nI s) (nI n))) else some (false, σ)) _ _
      rw [tells_both hA hs hn]
      obtain ⟨g1, g2, g3⟩ := BG_begin τ
      generalize m_Mo_begin (wn τ 0 0) = τb at g1 g2 g3 ⊢
      have e8 : ((8 : Int32) + nI s).toNatClampNeg = 8 + s := clA 8 (by omega)
      rw [e8]
      cases ht : tbl (yL τ 0 (8 + s)) n with
      | true =>
        rw [if_neg bt, if_neg bt, if_neg bt]
        exact okX_mk ⟨a3, b3, q2, trivial⟩ rfl rfl (hup.th 0)
      | false =>
        rw [if_pos bf, if_pos bf, if_pos bf]
        have bg := g1.l (8 + s) (yL τb 0 (8 + s) ||| (1 <<< ((nI n).toInt64 &&& 63)))
        have eN : yL (wL τb 0 (8 + s) (yL τb 0 (8 + s) ||| (1 <<< ((nI n).toInt64 &&& 63)))) 0 = vp_updL (yL τ 0) (8 + s) (yL τ 0 (8 + s) ||| (1 <<< ((nI n).toInt64 &&& 63))) := by rw [yL_wL0, g2]
        unfold m_Sheets_addName
        rw [at_in (k := 1) (show s < 24 by omega)]
        have eL : xL (m_Row_set σ 1 (nI s) ((xL σ 1 s).toInt32 ||| (1 <<< (nI n &&& 31))).toInt64) = sL (xL σ) 1 s ((xL σ 1 s).toInt32 ||| (1 <<< (nI n &&& 31))).toInt64 := rs_xL (show s < 24 by omega)
        obtain ⟨k1, k2, k3, k4⟩ := kept_op hc (A' := A) hA ho hB hl hH (rs_sk σ 1 (nI s) ((xL σ 1 s).toInt32 ||| (1 <<< (nI n &&& 31))).toInt64) bg (by
          rw [eN, eL]
          obtain ⟨h0, h1, h2, h3, h4, h5, h6, h7⟩ := hA.up hc
          have key : (((xL σ 1 s).toInt32 ||| (1 <<< (nI n &&& 31))).toInt64).toInt32 = (yL τ 0 (8 + s) ||| (1 <<< ((nI n).toInt64 &&& 63))).toInt32 := by
            rw [to64_32]
            apply tb_ext
            intro j hj
            rw [tb_or, tb_one hn, h1.1 s hs, tbl_32 _ hj, tbl_32 _ hj, tbl_or hn hj]
          have hr : ∀ j, j ≠ 1 → sL (xL σ) 1 s ((xL σ 1 s).toInt32 ||| (1 <<< (nI n &&& 31))).toInt64 j = xL σ j := fun j hj => sL_row hj
          have hr1 : ∀ j, j ≠ s → sL (xL σ) 1 s ((xL σ 1 s).toInt32 ||| (1 <<< (nI n &&& 31))).toInt64 1 j = xL σ 1 j := fun j hj => sL_cell hj
          have hr2 : sL (xL σ) 1 s ((xL σ 1 s).toInt32 ||| (1 <<< (nI n &&& 31))).toInt64 1 s = ((xL σ 1 s).toInt32 ||| (1 <<< (nI n &&& 31))).toInt64 := sL_same _ _ _ _
          have hN : ∀ j, j ≠ 8 + s → vp_updL (yL τ 0) (8 + s) (yL τ 0 (8 + s) ||| (1 <<< ((nI n).toInt64 &&& 63))) j = yL τ 0 j := fun j hj => vu hj
          have hN2 : vp_updL (yL τ 0) (8 + s) (yL τ 0 (8 + s) ||| (1 <<< ((nI n).toInt64 &&& 63))) (8 + s) = _ := pk_uLs
          generalize sL (xL σ) 1 s ((xL σ 1 s).toInt32 ||| (1 <<< (nI n &&& 31))).toInt64 = L' at hr hr1 hr2 ⊢
          generalize vp_updL (yL τ 0) (8 + s) (yL τ 0 (8 + s) ||| (1 <<< ((nI n).toInt64 &&& 63))) = N' at hN hN2 ⊢
          have q1 : R1 (aN A 0) (L' 1) N' := by
            refine ⟨fun s' hs' => ?_, fun s' w1 w2 => ?_⟩
            · by_cases e : s' = s
              · subst e; rw [hr2, hN2]; exact key
              · rw [hr1 s' e, hN _ (by omega)]; exact h1.1 s' hs'
            · rw [hr1 s' (by omega)]; exact h1.2 s' w1 w2
          exact ⟨(by unfold R0; rw [hr 0 (by decide), hr 6 (by decide), hr 12 (by decide), hr 18 (by decide)]; exact h0.cg fun i _ => hN i (by omega)), q1, (by show R2 (aN A 0) (aN A 1) (aN A 6) _ _ _ _ _ _ (L' 2) (L' 3) (L' 4) N'; rw [hr 2 (by decide), hr 3 (by decide), hr 4 (by decide)]; exact h2.cg fun i _ _ => hN i (by omega)), (by show R3 (aN A 1) _ (L' 5) N'; rw [hr 5 (by decide)]; exact h3.cg fun i _ _ => hN i (by omega)), (by show R4 (aN A 0) (aN A 2) (aN A 6) _ _ _ _ _ (L' 7) (L' 8) (L' 9) (L' 10) (L' 11) N'; rw [hr 7 (by decide), hr 8 (by decide), hr 9 (by decide), hr 10 (by decide), hr 11 (by decide)]; exact h4.cg fun i _ _ => hN i (by omega)), (by show R5 (aN A 3) (L' 13) N'; rw [hr 13 (by decide)]; exact h5.cg h0.2.2.2.1.2.2 fun i _ _ => hN i (by omega)), (by show R6 (aN A 4) (L' 14) (L' 15) (L' 16) (L' 17) N'; rw [hr 14 (by decide), hr 15 (by decide), hr 16 (by decide), hr 17 (by decide)]; exact h6.cg h0.2.2.2.2.1.2.2 fun i _ _ => hN i (by omega)), h7⟩) rfl
        exact okX_mk ⟨a3, b3, q2, g3, inA 8 (by omega), inA 8 (by omega), k1, trivial⟩ k3 rfl k2 k4
theorem lN_p32 (j : Nat) : (lN j - 1).toInt32 = nI j - 1 := by
  have : (lN j - 1).toInt32 = (lN j).toInt32 - (1 : Int64).toInt32 := Int64.toInt32_sub _ _
  rw [this, lN_i]; rfl
theorem joint_ix {p n : Nat} : (nI p * 32) + nI n = nI (32 * p + n) := by
  show nI p * nI 32 + nI n = _
  rw [pk_mul, nI_add, Nat.mul_comm]
theorem joint_cl {p n : Nat} (hp : p < 60) (hn : n < 32) : (((212 : Int32) + (32 * nI p)) + nI n).toNatClampNeg = 212 + 32 * p + n := by
  show (nI 212 + (nI 32 * nI p) + nI n).toNatClampNeg = _
  rw [pk_mul, nI_add, nI_add, nI_clamp (by omega)]
theorem joint_in {p n : Nat} (hp : p < 60) (hn : n < 32) : vp_in (((212 : Int32) + (32 * nI p)) + nI n) (lnML 0) := by
  show vp_in (nI 212 + (nI 32 * nI p) + nI n) (lnML 0)
  rw [pk_mul, nI_add, nI_add]; exact inL _ (by omega)
theorem jointOf_eq {c : Nat} {A : AS} {σ : SC} {τ : SM} (h : RR c A (xL σ) (yL τ 0)) {p n : Nat} (hp : p < 60) (hn : n < 32) (ha : aF A 0 p ≠ 0) : ∃ j, j ≤ 32 ∧ yL τ 0 (212 + 32 * p + n) = lN j ∧ m_Sheets_jointOf σ (nI p) (nI n) = nI j - 1 := by
  obtain ⟨j, h1, h2, h3⟩ := (h.2.2.2.1 p n hp hn).1 ha
  refine ⟨j, h1, h2, ?_⟩
  unfold m_Sheets_jointOf
  rw [joint_ix, at_in (k := 5) (show 32 * p + n < 1920 by omega), h3, lN_p32]
theorem op_joined {c : Nat} (hc : c + 1 ≤ 1000) {σ : SC} {τ : SM} (h : RL c σ τ) (x y : Int32) : okR (c + 1) σ (m_ST_joined σ x y) (k_Mo_joined τ x y) (m_Mo_joined τ x y) := by
  have hup := h.up hc
  obtain ⟨A, hA, ho, hB, hP, hl, hH⟩ := h
  unfold m_ST_joined m_Mo_joined k_Mo_joined m_ST_needPlacement
  rcases pc_cases hA x with ⟨a1, a2, a3⟩ | ⟨p, hp, ha, rfl, a1, a2, a3⟩
  · rw [a1, a2, if_pos bf, if_pos bf, if_pos bf]
    exact okR_no ⟨a3, trivial⟩ rfl (hup.th 1)
  · rw [a1, a2, if_neg bt, if_neg bt, if_neg bt]
    rcases nm_cases σ y with ⟨b1, b2, b3⟩ | ⟨n, hn, rfl, b1, b2, b3⟩
    · rw [b1, b2, if_pos bf, if_pos bf]
      exact okR_no ⟨a3, b3, trivial⟩ rfl (hup.th 1)
    · obtain ⟨j, h1, h2, h3⟩ := jointOf_eq hA hp hn ha
      rw [b1, b2, if_neg bt, if_neg bt, joint_cl hp hn, yL_wn, h2, lN_i]
      show okR (c + 1) σ (some (m_Sheets_jointOf σ (nI p) (nI n))) _ _
      rw [h3]
      exact okR_mk ⟨a3, b3, joint_in hp hn, trivial⟩ rfl rfl (hup.th 0)
theorem op_join {c : Nat} (hc : c + 1 ≤ 1000) {σ : SC} {τ : SM} (h : RL c σ τ) (x y z : Int32) : okX (c + 1) σ (m_ST_join σ x y z) (k_Mo_join τ x y z) (m_Mo_join τ x y z) := by
  have hup := h.up hc
  obtain ⟨A, hA, ho, hB, hP, hl, hH⟩ := h
  have b := hA.1.1.2.2.2
  unfold m_ST_join m_Mo_join k_Mo_join m_ST_needPlacement
  rcases pc_cases hA x with ⟨a1, a2, a3⟩ | ⟨p, hp, ha, rfl, a1, a2, a3⟩
  · rw [a1, a2, if_pos bf, if_pos bf, if_pos bf]
    exact okX_no ⟨a3, trivial⟩ rfl (hup.th 1)
  · rw [a1, a2, if_neg bt, if_neg bt, if_neg bt]
    rcases nm_cases σ y with ⟨b1, b2, b3⟩ | ⟨n, hn, rfl, b1, b2, b3⟩
    · rw [b1, b2, if_pos bf, if_pos bf]
      exact okX_no ⟨a3, b3, trivial⟩ rfl (hup.th 1)
    · rw [b1, b2, if_neg bt, if_neg bt]
      rcases nm_cases σ z with ⟨d1, d2, d3⟩ | ⟨o, hno, rfl, d1, d2, d3⟩
      · rw [d1, d2, if_pos bf, if_pos bf]
        exact okX_no ⟨a3, b3, d3, trivial⟩ rfl (hup.th 1)
      · obtain ⟨y1, y2, y3, y4, y5, y6, y7⟩ := alM hA.2.2.1 hp ha
        have y8 := (hA.2.2.1.1 p hp ha).2.1
        have y9 := (hA.2.2.1.1 p hp ha).2.2.1
        have e92 : ((92 : Int32) + nI p).toNatClampNeg = 92 + p := clA 92 (by omega)
        have e32 : ((32 : Int32) + nI p).toNatClampNeg = 32 + p := clA 32 (by omega)
        obtain ⟨j, h1, h2, h3⟩ := jointOf_eq hA hp hn ha
        rw [d1, d2, if_neg bt, if_neg bt, e92, e32, joint_cl hp hn, yL_wn, y2, y3, h2]
        obtain ⟨q1, q2⟩ := hasName_eq (τ := wn τ 0 0) (s := aF A 3 p) (n := n) (by omega) hn
        obtain ⟨r1, r2⟩ := hasName_eq (τ := wn τ 0 0) (s := aF A 1 p) (n := o) (by omega) hno
        rw [q1, r1, yL_wn]
        show okX (c + 1) σ (if bi (m_Sheets_tells σ (m_Sheets_sheetOf σ (nI p)) (nI n)) = 0 then some (false, σ) else if bi (m_Sheets_tells σ (m_Sheets_parentOf σ (nI p)) (nI o)) = 0 then some (false, σ) else if m_Sheets_jointOf σ (nI p) (nI n) = nI o then some (false, σ) else some (true, m_Journal_keep (m_Sheets_setJoint σ (nI p) (nI n) (nI o)))) _ _
        rw [sheetOf_al hA.2.2.1 ha, parent_al hA.2.2.1 ha, tells_both hA y9 hn, tells_both hA y8 hno, h3]
        cases t1 : tbl (yL τ 0 (8 + aF A 3 p)) n with
        | false =>
          rw [if_pos bf, if_pos bf, if_pos bf]
          exact okX_mk ⟨a3, b3, d3, inA 92 (by omega), q2, trivial⟩ rfl rfl (hup.th 0)
        | true =>
          rw [if_neg bt, if_neg bt, if_neg bt]
          cases t2 : tbl (yL τ 0 (8 + aF A 1 p)) o with
          | false =>
            rw [if_pos bf, if_pos bf, if_pos bf]
            exact okX_mk ⟨a3, b3, d3, inA 92 (by omega), q2, inA 32 (by omega), r2, trivial⟩ rfl rfl (hup.th 0)
          | true =>
            rw [if_neg bt, if_neg bt, if_neg bt, nI_l (show o < 2 ^ 31 by omega), lN_1]
            have ej : nI j - 1 = nI o ↔ j = o + 1 := by
              cases j with
              | zero =>
                have : nI 0 - 1 = -1 := by decide
                rw [this]
                exact ⟨fun w => absurd w.symm (nI_m1 (by omega)), fun w => by omega⟩
              | succ j =>
                have : nI (j + 1) - 1 = nI j := nI_pred j
                rw [this, nI_eq (by omega) (by omega)]; omega
            by_cases cj : j = o + 1
            · have cl : lg_cmp (lN j) (lN (o + 1)) = 0 := cmp0.mpr (by rw [cj])
              rw [if_pos (ej.mpr cj), if_pos cl, if_pos cl]
              exact okX_mk ⟨a3, b3, d3, inA 92 (by omega), q2, inA 32 (by omega), r2, joint_in hp hn, trivial⟩ rfl rfl (hup.th 0)
            · have cl : ¬ lg_cmp (lN j) (lN (o + 1)) = 0 := fun w => cj ((lN_eq (by omega) (by omega)).mp (cmp0.mp w))
              rw [if_neg (fun w => cj (ej.mp w)), if_neg cl, if_neg cl]
              obtain ⟨g1, g2, g3⟩ := BG_begin τ
              generalize m_Mo_begin (wn τ 0 0) = τb at g1 g2 g3 ⊢
              have bg := g1.l (212 + 32 * p + n) (lN (o + 1))
              have eN : yL (wL τb 0 (212 + 32 * p + n) (lN (o + 1))) 0 = vp_updL (yL τ 0) (212 + 32 * p + n) (lN (o + 1)) := by rw [yL_wL0, g2]
              unfold m_Sheets_setJoint
              rw [joint_ix, nI_l (show o < 2 ^ 31 by omega)]
              have eL : xL (m_Row_set σ 5 (nI (32 * p + n)) (lN o)) = sL (xL σ) 5 (32 * p + n) (lN o) := rs_xL (show 32 * p + n < 1920 by omega)
              obtain ⟨k1, k2, k3, k4⟩ := kept_op hc (A' := A) hA ho hB hl hH (rs_sk σ 5 (nI (32 * p + n)) (lN o)) bg (by
                rw [eN, eL]
                obtain ⟨h0, h1, h2, h3, h4, h5, h6, h7⟩ := hA.up hc
                have hr : ∀ j, j ≠ 5 → sL (xL σ) 5 (32 * p + n) (lN o) j = xL σ j := fun j hj => sL_row hj
                have hr1 : ∀ j, j ≠ 32 * p + n → sL (xL σ) 5 (32 * p + n) (lN o) 5 j = xL σ 5 j := fun j hj => sL_cell hj
                have hr2 : sL (xL σ) 5 (32 * p + n) (lN o) 5 (32 * p + n) = lN o := sL_same _ _ _ _
                have hN : ∀ j, j ≠ 212 + 32 * p + n → vp_updL (yL τ 0) (212 + 32 * p + n) (lN (o + 1)) j = yL τ 0 j := fun j hj => vu hj
                have hN2 : vp_updL (yL τ 0) (212 + 32 * p + n) (lN (o + 1)) (212 + 32 * p + n) = lN (o + 1) := pk_uLs
                generalize sL (xL σ) 5 (32 * p + n) (lN o) = L' at hr hr1 hr2 ⊢
                generalize vp_updL (yL τ 0) (212 + 32 * p + n) (lN (o + 1)) = N' at hN hN2 ⊢
                have q3 : R3 (aN A 1) (aF A 0) (L' 5) N' := by
                  intro p' n' hp' hn'
                  by_cases e : 32 * p' + n' = 32 * p + n
                  · have e1 : p' = p := by omega
                    have e2 : n' = n := by omega
                    subst e1 e2
                    rw [hr2, hN2]
                    exact ⟨fun _ => ⟨o + 1, by omega, rfl, by rw [← lN_1, Int64.add_sub_cancel]⟩, fun w => by omega⟩
                  · rw [hr1 _ e, hN _ (by omega)]; exact h3 p' n' hp' hn'
                exact ⟨(by unfold R0; rw [hr 0 (by decide), hr 6 (by decide), hr 12 (by decide), hr 18 (by decide)]; exact h0.cg fun i _ => hN i (by omega)), (by show R1 (aN A 0) (L' 1) N'; rw [hr 1 (by decide)]; exact h1.cg h0.1.2.2.2 fun i _ _ => hN i (by omega)), (by show R2 (aN A 0) (aN A 1) (aN A 6) _ _ _ _ _ _ (L' 2) (L' 3) (L' 4) N'; rw [hr 2 (by decide), hr 3 (by decide), hr 4 (by decide)]; exact h2.cg fun i _ _ => hN i (by omega)), q3, (by show R4 (aN A 0) (aN A 2) (aN A 6) _ _ _ _ _ (L' 7) (L' 8) (L' 9) (L' 10) (L' 11) N'; rw [hr 7 (by decide), hr 8 (by decide), hr 9 (by decide), hr 10 (by decide), hr 11 (by decide)]; exact h4.cg fun i _ _ => hN i (by omega)), (by show R5 (aN A 3) (L' 13) N'; rw [hr 13 (by decide)]; exact h5.cg h0.2.2.2.1.2.2 fun i _ _ => hN i (by omega)), (by show R6 (aN A 4) (L' 14) (L' 15) (L' 16) (L' 17) N'; rw [hr 14 (by decide), hr 15 (by decide), hr 16 (by decide), hr 17 (by decide)]; exact h6.cg h0.2.2.2.2.1.2.2 fun i _ _ => hN i (by omega)), h7⟩) rfl
              exact okX_mk ⟨a3, b3, d3, inA 92 (by omega), q2, inA 32 (by omega), r2, joint_in hp hn, g3, joint_in hp hn, k1, trivial⟩ k3 rfl k2 k4
