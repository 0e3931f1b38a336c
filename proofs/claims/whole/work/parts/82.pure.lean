section NA
variable {c : Nat} {A : AS} {σ : SC}
theorem mk_units {ps : List Pg} {q i P m : Nat} (hi : i < ps.length) (h : mk (aF A 6) (aF A 7) (aF A 8) ps q i P m) : m ≤ units A ps q := by
  refine Nat.le_of_not_lt fun z => ?_
  obtain ⟨g, h1, h2⟩ := h.1 (units A ps q) z
  have := ex_units (A := A) (ps := ps) h1 (uc_po (ps := ps) (g := aF A 7 (8 * q + g)) (u := units A ps q) (by omega))
  omega
theorem name62 {N : Nat → Int64} (hs24 : ∀ (i s : Nat) (a b : Int32) (d : Nat), (pgs (aP A) (aF A 3))[i]? = some (s, a, b, d) → s < 24) (hl : (pgs (aP A) (aF A 3)).length ≤ 301) {part i0 P0 : Nat} (hpart : part < aN A 2) (hi0 : i0 < (pgs (aP A) (aF A 3)).length) (hP0 : P0 < 2 ^ 30) {m0 m1 : Nat → Nat} (hM1 : MI A (pgs (aP A) (aF A 3)) (aF A 5 part) i0 P0 m1) (hM0 : MI A (pgs (aP A) (aF A 3)) (aF A 5 part) i0 0 m0) (v2 : Int32) : ∀ (m p n v : Nat) (τ : SM), yL τ 0 = N → RLA c A σ τ → PR τ (pgs (aP A) (aF A 3)) → p + m = aN A 2 → m < n → v = 1 + sm (aF A 5) (aF A 5 part) (fun q => m1 q - (if N 5 = 0 then 0 else m0 q)) p →
    ∃ τ', RLA c A σ τ' ∧ yn τ' 0 = yn τ 0 ∧ kl_Mo_name_62 n τ (nI part) v2 (nI i0) (lN P0) (nI v) (nI p) ∧ lp_Mo_name_62 n τ (nI part) v2 (nI i0) (lN P0) (nI v) (nI p) =
      ((if N 5 = 0 then nI (aF A 5 part) * 10000 + nI (1 + sm (aF A 5) (aF A 5 part) (fun q => m1 q - (if N 5 = 0 then 0 else m0 q)) (aN A 2)) else nI (aF A 5 part) * 10000 + (100 * nI i0 + nI (1 + sm (aF A 5) (aF A 5 part) (fun q => m1 q - (if N 5 = 0 then 0 else m0 q)) (aN A 2)))), τ') := by
  intro m
  induction m with
  | zero =>
    intro p n v τ hN hA hP hp hn hv
    obtain ⟨n, rfl⟩ : ∃ k, n = k + 1 := ⟨n - 1, by omega⟩
    have b2 := hA.1.1.2.2.1.2.2
    obtain ⟨y1, y2, y3, y4, y5, -⟩ := hA.1.2.2.2.2.1.1 part hpart
    have e1 : ((2132 : Int32) + nI part).toNatClampNeg = 2132 + part := clA 2132 (by omega)
    unfold lp_Mo_name_62 kl_Mo_name_62
    have c1 : nI (aN A 2) ≤ nI p := nI_le (by omega) (by omega)
    have : p = aN A 2 := by omega
    subst this
    rw [ct2 hA.1, if_pos c1, if_pos c1, e1, int5, y5, lN_i, hN, ← hv]
    have i5 : vp_in 5 (lnML 0) := inL 5 (by omega)
    by_cases c5 : N 5 = 0
    · have c5' := cmp0.mpr c5
      rw [if_pos c5', if_pos c5', if_pos c5]
      exact ⟨τ, hA, rfl, ⟨count_k (k := 2) (by decide), inA 2132 (by omega), i5, trivial⟩, rfl⟩
    · have c5' : ¬ lg_cmp (N 5) 0 = 0 := fun w => c5 (cmp0.mp w)
      rw [if_neg c5', if_neg c5', if_neg c5]
      exact ⟨τ, hA, rfl, ⟨count_k (k := 2) (by decide), inA 2132 (by omega), i5, trivial⟩, rfl⟩
  | succ m ih =>
    intro p n v τ hN hA hP hp hn hv
    obtain ⟨n, rfl⟩ : ∃ k, n = k + 1 := ⟨n - 1, by omega⟩
    have b2 := hA.1.1.2.2.1.2.2
    obtain ⟨y1, y2, y3, y4, y5, -⟩ := hA.1.2.2.2.2.1.1 part hpart
    obtain ⟨z1, z2, z3, z4, z5, -⟩ := hA.1.2.2.2.2.1.1 p (by omega)
    have e1 : ((2132 : Int32) + nI part).toNatClampNeg = 2132 + part := clA 2132 (by omega)
    have e2 : ((2132 : Int32) + nI p).toNatClampNeg = 2132 + p := clA 2132 (by omega)
    have hvb : v ≤ 1 + p * 301 := by
      have := sm_le (lt := aF A 5) (l0 := aF A 5 part) (b := 301) (f := fun q => m1 q - (if N 5 = 0 then 0 else m0 q)) p (fun q hq hlq => by
        have := mk_le hi0 hl (hM1 q (by omega) hlq)
        show m1 q - _ ≤ 301
        omega)
      omega
    unfold lp_Mo_name_62 kl_Mo_name_62
    have c1 : ¬ nI (aN A 2) ≤ nI p := nI_ge (by omega) (by omega)
    have k1 := count_k (τ := τ) (k := 2) (by decide)
    have k2 := inA 2132 (i := part) (by omega)
    have k3 := inA 2132 (i := p) (by omega)
    rw [ct2 hA.1, if_neg c1, if_neg c1, e1, e2, y5, z5]
    by_cases cl : aF A 5 p = aF A 5 part
    · have cl' : lg_cmp (lN (aF A 5 p)) (lN (aF A 5 part)) = 0 := cmp0.mpr (by rw [cl])
      rw [if_pos cl', if_pos cl']
      obtain ⟨τ1, u1, u2, u3, u4, u5, u6⟩ := unitM_eq hA (q := p) (by omega)
      have ul := units_le A (pgs (aP A) (aF A 3)) p
      rw [u1]
      have hmh := hM1 p (by omega) cl
      have hml := hM0 p (by omega) cl
      have hmu := mk_units hi0 hmh
      obtain ⟨τ2, q1, q2, q3, q4⟩ := name112 (σ := σ) u4.1 hl hs24 (p := p) (by omega) (i0 := i0) (P0 := P0) hi0 hP0 hmh hml (lp_Mo_name_62 n) (kl_Mo_name_62 n) (nI part) v2 (units A (pgs (aP A) (aF A 3)) p) 0 (units A (pgs (aP A) (aF A 3)) p + 1) v τ1 rfl u3 u4 (by omega) (by omega) (by omega)
      rw [nI_0] at q3 q4
      have eN5 : yL τ1 0 5 = N 5 := by rw [u5, hN]
      rw [eN5] at q3 q4
      have ev : v + (min (units A (pgs (aP A) (aF A 3)) p) (m1 p) - max 0 (if N 5 = 0 then 0 else m0 p)) = v + (m1 p - (if N 5 = 0 then 0 else m0 p)) := by split <;> omega
      rw [ev] at q3 q4
      obtain ⟨τ', i1, i2, i3, i4⟩ := ih (p + 1) n (v + (m1 p - (if N 5 = 0 then 0 else m0 p))) τ2 (by rw [q1.1, u5, hN]) (u4.fn q1) q2 (by omega) (by omega) (by
        show _ = 1 + (sm (aF A 5) (aF A 5 part) _ p + (if aF A 5 p = aF A 5 part then _ else 0))
        rw [if_pos cl, hv, Nat.add_assoc])
      have huc : (nI (units A (pgs (aP A) (aF A 3)) p)).toNatClampNeg = units A (pgs (aP A) (aF A 3)) p := nI_clamp (by omega)
      show ∃ τ', _ ∧ _ ∧ (_ ∧ _ ∧ _ ∧ _ ∧ kl_Mo_name_112 (kl_Mo_name_62 n) ((nI (units A (pgs (aP A) (aF A 3)) p)).toNatClampNeg + 1) τ1 (nI part) v2 (nI i0) (lN P0) (nI v) (nI p) (nI (units A (pgs (aP A) (aF A 3)) p)) 0) ∧ lp_Mo_name_112 (lp_Mo_name_62 n) ((nI (units A (pgs (aP A) (aF A 3)) p)).toNatClampNeg + 1) τ1 (nI part) v2 (nI i0) (lN P0) (nI v) (nI p) (nI (units A (pgs (aP A) (aF A 3)) p)) 0 = _
      rw [huc]
      exact ⟨τ', i1, i2.trans ((q1.2.2.2 0 (by decide)).trans u6), ⟨k1, k3, k2, u2, q4 i3⟩, q3.trans i4⟩
    · have cl' : ¬ lg_cmp (lN (aF A 5 p)) (lN (aF A 5 part)) = 0 := fun w => cl ((lN_eq (by omega) (by omega)).mp (cmp0.mp w))
      rw [if_neg cl', if_neg cl']
      obtain ⟨τ', i1, i2, i3, i4⟩ := ih (p + 1) n v τ hN hA hP (by omega) (by omega) (by
        show _ = 1 + (sm (aF A 5) (aF A 5 part) _ p + (if aF A 5 p = aF A 5 part then _ else 0))
        rw [if_neg cl, hv]; rfl)
      have f1 : (0 : Int32).toNatClampNeg + 1 = 0 + 1 := by decide
      have z0 : (0 : Int32) ≤ 0 := by decide
      have a1 : lp_Mo_name_112 (lp_Mo_name_62 n) ((0 : Int32).toNatClampNeg + 1) τ (nI part) v2 (nI i0) (lN P0) (nI v) (nI p) 0 0 = lp_Mo_name_62 n τ (nI part) v2 (nI i0) (lN P0) (nI v) (nI (p + 1)) := by
        rw [f1]; unfold lp_Mo_name_112; rw [if_pos z0, nI_1]
      have a2 : kl_Mo_name_112 (kl_Mo_name_62 n) ((0 : Int32).toNatClampNeg + 1) τ (nI part) v2 (nI i0) (lN P0) (nI v) (nI p) 0 0 = kl_Mo_name_62 n τ (nI part) v2 (nI i0) (lN P0) (nI v) (nI (p + 1)) := by
        rw [f1]; unfold kl_Mo_name_112; rw [if_pos z0, nI_1]
      rw [a1, a2]
      exact ⟨τ', i1, i2, ⟨k1, k3, k2, i3⟩, i4⟩
theorem RLA.lk {σ σ' : SC} {τ : SM} (h : RLA c A σ τ) (k : LK σ σ') : RLA c A σ' τ := by
  obtain ⟨h1, h2, h3, h4, h5, n, i, f, g1, g2, g3, g4, g5, g6, g7, g8⟩ := h
  refine ⟨by rw [k.1]; exact h1, by rw [k.2.1]; exact h2, h3.lk k, h4, by rw [k.2.2.2.1]; exact h5, n, i, f, g1, g2, g3, by rw [k.2.2.2.1]; exact g4, by rw [k.2.2.2.1]; exact g5, g6, g7, by rw [k.2.2.1, k.1]; exact g8⟩
end NA
theorem op_name {c : Nat} (hc : c + 1 ≤ 1000) {σ : SC} {τ : SM} (h : RL c σ τ) (x y : Int32) : okX (c + 1) σ (m_ST_name σ x y) (k_Mo_name τ x y) (m_Mo_name τ x y) := by
  obtain ⟨A, hA⟩ := h
  have hA : RLA c A σ τ := hA
  obtain ⟨hpv, hb, -⟩ := pgs_PV hA.1.2.2.1 hA.1.1.1.2.2.1
  have hns := hA.1.1.1.2.2.2
  have hs24 : ∀ (i s : Nat) (a b : Int32) (d : Nat), (pgs (aP A) (aF A 3))[i]? = some (s, a, b, d) → s < 24 := fun i s a b d hi => by have := (hpv i s a b d hi).1; omega
  have th1 := ((hA.th 1).up hc).rl
  have h5 := hA.1.1.2.2.2.2.2.1.2
  have e18 : m_Row_at σ 18 0 = (yL τ 0 5).toInt32 := by
    have := at_in (σ := σ) (k := 18) (i := 0) (by decide)
    rw [hA.1.1.2.2.2.2.2.1.1] at this; exact this
  unfold m_ST_name m_Mo_name k_Mo_name m_ST_needPart m_ST_needUnit
  rcases qt_cases hA.1 x with ⟨b1, b2, b3⟩ | ⟨q, hq, rfl, b1, b2, b3⟩
  · rw [b1, b2, if_pos bf, if_pos bf, if_pos bf]
    exact okX_no ⟨b3, trivial⟩ rfl th1
  · rw [b1, b2, if_neg bt, if_neg bt, if_neg bt, unitC_eq hA.1 hA.2.2.1 hb hq]
    obtain ⟨τ', u1, u2, u3, u4, u5, u6⟩ := unitM_eq hA hq
    have ul := units_le A (pgs (aP A) (aF A 3)) q
    have hq30 := hA.1.1.2.2.1.2.2
    rw [u1]
    rcases ix_cases y (n := units A (pgs (aP A) (aF A 3)) q) (by omega) with w | ⟨w, v⟩ | ⟨u, hu, e, w, v⟩
    · rw [if_pos w, if_pos w, if_pos w]
      exact okX_no ⟨b3, trivial⟩ rfl th1
    · have v2 : ¬ y < nI (units A (pgs (aP A) (aF A 3)) q) := Int32.not_lt.mpr v
      rw [if_neg w, if_neg w, if_neg w, if_neg v2]
      show okX (c + 1) σ none (_ ∧ _ ∧ if nI (units A (pgs (aP A) (aF A 3)) q) ≤ y then _ else _) (if nI (units A (pgs (aP A) (aF A 3)) q) ≤ y then _ else _)
      rw [if_pos v, if_pos v]
      exact okX_no ⟨b3, u2, trivial⟩ rfl ((u4.th 1).up hc).rl
    · have v2 : y < nI (units A (pgs (aP A) (aF A 3)) q) := Int32.not_le.mp v
      subst e
      rw [if_neg w, if_neg w, if_neg w, if_pos v2]
      show okX (c + 1) σ (if m_Row_at σ 18 0 = 1 then some (m_Parts_letterOf (m_Parts_numberOf σ (nI q) (nI u) true).2 (nI q) * 10000 + (m_Parts_numberOf σ (nI q) (nI u) true).1, (m_Parts_numberOf σ (nI q) (nI u) true).2) else some (m_Parts_letterOf (m_Parts_numberOf σ (nI q) (nI u) false).2 (nI q) * 10000 + (m_Parts_numberOf σ (nI q) (nI u) false).1, (m_Parts_numberOf σ (nI q) (nI u) false).2)) (_ ∧ _ ∧ if nI (units A (pgs (aP A) (aF A 3)) q) ≤ nI u then _ else _) (if nI (units A (pgs (aP A) (aF A 3)) q) ≤ nI u then _ else _)
      rw [if_neg v, if_neg v, e18]
      have u40 := u4.th 0
      -- the reference
      obtain ⟨τ1, i1, P1, f1, f2, f3, f4, f5, f6, f7⟩ := first_eq (τ := wn τ' 0 0) u40.1 hb hs24 hq hu rfl u3
      rw [f1, f4, f5]
      -- the class
      have cls : ∀ b, ∃ σ' m0 m1, LK σ σ' ∧ MI A (pgs (aP A) (aF A 3)) (aF A 5 q) i1 0 m0 ∧ MI A (pgs (aP A) (aF A 3)) (aF A 5 q) i1 P1 m1 ∧ (∀ q, m0 q ≤ m1 q) ∧ m_Parts_numberOf σ (nI q) (nI u) b = ((if b = true then nI (100 * i1 + (sm (aF A 5) (aF A 5 q) (fun q => m1 q - m0 q) (aN A 2) + 1)) else nI (sm (aF A 5) (aF A 5 q) m1 (aN A 2) + 1)), σ') := fun b => by
        unfold m_Parts_numberOf
        have hf := fill_eq σ 6 0
        generalize m_Arrays_fillI σ 6 0 = F at hf ⊢
        obtain ⟨k1, k2, k3, k4⟩ := hf
        have hLK : LK σ F := ⟨k2.1, k2.2.1, k2.2.2.1, k4, k3⟩
        have hBF := hA.2.2.1.lk hLK
        have hlen : 0 < (pgs (aP A) (aF A 3)).length := by have := ul; omega
        unfold m_Book_count
        rw [hBF.1, nI_clamp (by omega)]
        obtain ⟨σ', i0, P, m0, m1, n1, n2, n3, n4, n5, n6, n7⟩ := number_l hA.1 hb hs24 hq hu b ((pgs (aP A) (aF A 3)).length + 1) 0 F (fun _ => 0) 0 k2.1 hBF hlen (by omega) (fun q hq => by rw [k1 q hq]; rfl) (fun q _ _ => ⟨fun u hu => absurd hu (Nat.not_lt_zero u), fun z => by obtain ⟨g, -, z2⟩ := z; omega⟩) (Nat.zero_le _) (fun _ => by
          have : sm (aF A 5) (aF A 5 q) (fun _ => 0) (aN A 2) ≤ aN A 2 * 0 := sm_le _ fun q _ _ => Nat.le_refl _
          rw [show sm (aF A 5) (aF A 5 q) (fun _ => 0) (aN A 2) = 0 by omega]; rfl)
        obtain ⟨e1, e2⟩ := FP_eq n2 f7
        subst e1 e2
        rw [nI_0] at n7
        exact ⟨σ', m0, m1, hLK.tr n1, n3, n4, n5, n7⟩
      have hl10 : ∀ σ', LK σ σ' → m_Parts_letterOf σ' (nI q) = nI (aF A 5 q) := fun σ' k => (letter_eq (σ := σ') (τ := τ) (by rw [k.1]; exact hA.1) hq).1
      rcases h5 with e5 | e5
      · have c1 : ¬ (yL τ 0 5).toInt32 = 1 := by rw [e5]; decide
        rw [if_neg c1]
        obtain ⟨σ', m0, m1, k1, k2, k3, k4, k5⟩ := cls false
        obtain ⟨τ2, r1, r2, r3, r4⟩ := name62 (σ := σ) (c := c) (N := yL τ1 0) hs24 hb hq f7.2.1 f6 k3 k2 (nI u) (aN A 2) 0 32 1 τ1 rfl (u40.fn f3) (PR.fn (τ := wn τ' 0 0) u3 f3) (by omega) (by omega) rfl
        have eN5 : yL τ1 0 5 = 0 := by rw [f3.1]; show yL τ' 0 5 = 0; rw [u5]; exact e5
        rw [eN5] at r4
        have e1 : nI 1 = 1 := rfl
        rw [nI_0, e1] at r3 r4
        rw [k5, r4]
        have hfin : (if false = true then nI (100 * i1 + (sm (aF A 5) (aF A 5 q) (fun q => m1 q - m0 q) (aN A 2) + 1)) else nI (sm (aF A 5) (aF A 5 q) m1 (aN A 2) + 1)) = nI (sm (aF A 5) (aF A 5 q) m1 (aN A 2) + 1) := rfl
        rw [hfin, if_pos rfl]
        have hsm : sm (aF A 5) (aF A 5 q) (fun q => m1 q - if (0 : Int64) = 0 then 0 else m0 q) (aN A 2) = sm (aF A 5) (aF A 5 q) m1 (aN A 2) := sm_cg _ fun q _ _ => by rw [if_pos rfl]; omega
        rw [hsm, Nat.add_comm 1]
        refine okX_mk ⟨b3, u2, f2, r3⟩ ?_ (by rw [hl10 σ' k1]) ((r1.lk k1).up hc).rl (by show nsL (xL σ) ≤ nsL (xL σ') + 1; rw [k1.1]; exact Nat.le_succ _)
        rw [r2, f3.2.2.2 0 (by decide)]; rfl
      · have c1 : (yL τ 0 5).toInt32 = 1 := by rw [e5]; decide
        rw [if_pos c1]
        obtain ⟨σ', m0, m1, k1, k2, k3, k4, k5⟩ := cls true
        obtain ⟨τ2, r1, r2, r3, r4⟩ := name62 (σ := σ) (c := c) (N := yL τ1 0) hs24 hb hq f7.2.1 f6 k3 k2 (nI u) (aN A 2) 0 32 1 τ1 rfl (u40.fn f3) (PR.fn (τ := wn τ' 0 0) u3 f3) (by omega) (by omega) rfl
        have eN5 : yL τ1 0 5 = 1 := by rw [f3.1]; show yL τ' 0 5 = 1; rw [u5]; exact e5
        rw [eN5] at r4
        have e1 : nI 1 = 1 := rfl
        rw [nI_0, e1] at r3 r4
        rw [k5, r4]
        have n10 : ¬ (1 : Int64) = 0 := by decide
        rw [if_pos rfl, if_neg n10]
        have hsm : sm (aF A 5) (aF A 5 q) (fun q => m1 q - if (1 : Int64) = 0 then 0 else m0 q) (aN A 2) = sm (aF A 5) (aF A 5 q) (fun q => m1 q - m0 q) (aN A 2) := sm_cg _ fun q _ _ => by rw [if_neg n10]
        have e100 : ∀ n, (100 : Int32) * nI i1 + nI (1 + n) = nI (100 * i1 + (n + 1)) := fun n => by
          show nI 100 * nI i1 + nI (1 + n) = _
          rw [pk_mul, nI_add, Nat.add_comm 1]
        rw [hsm, e100]
        refine okX_mk ⟨b3, u2, f2, r3⟩ ?_ (by rw [hl10 σ' k1]) ((r1.lk k1).up hc).rl (by show nsL (xL σ) ≤ nsL (xL σ') + 1; rw [k1.1]; exact Nat.le_succ _)
        rw [r2, f3.2.2.2 0 (by decide)]; rfl
