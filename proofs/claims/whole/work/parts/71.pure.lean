def RQ (c : Nat) (A : AS) (L : LL) (N : Nat → Int64) : Prop :=
  R0 (aN A) c L N ∧ R1 (aN A 0) (L 1) N ∧ R2 (aN A 0) (aN A 1) (aN A 6) (aF A 0) (aF A 1) (aF A 2) (aF A 3) (aF A 4) (aP A) (L 2) (L 3) (L 4) N ∧
  R3 (aN A 1) (aF A 0) (L 5) N ∧ R4 (aN A 0) (aN A 2) (aN A 6) (aF A 5) (aF A 6) (aF A 7) (aF A 8) (aG A) (L 7) (L 8) (L 9) (L 10) (L 11) N ∧
  R5 (aN A 3) (L 13) N ∧ R6 (aN A 4) (L 14) (L 15) (L 16) (L 17) N
theorem RQ.rr {c : Nat} {A : AS} {L : LL} {N : Nat → Int64} (h : RQ c A L N) (hl : (pgs (aP A) (aF A 3)).length ≤ 300) : RR c A L N := ⟨h.1, h.2.1, h.2.2.1, h.2.2.2.1, h.2.2.2.2.1, h.2.2.2.2.2.1, h.2.2.2.2.2.2, hl⟩
theorem room_M {c : Nat} {A : AS} {L : LL} {τ : SM} (hQ : RQ c A L (yL τ 0)) : ∃ τ2, m_Mo_hasRoom τ = (decide ((pgs (aP A) (aF A 3)).length ≤ 300), τ2) ∧ k_Mo_hasRoom τ ∧ TM τ τ2 := by
  obtain ⟨τ', h1, h2, h3, h4⟩ := turn_eq hQ.2.2.1 hQ.1.2.1.2.1
  have hb := (pgs_PV hQ.2.2.1 hQ.1.1.2.2.1).2.1
  unfold m_Mo_hasRoom k_Mo_hasRoom
  rw [h1]
  have e4 : yn (wf τ' true) 4 = nI (pgs (aP A) (aF A 3)).length := h3.1
  rw [e4]
  by_cases c1 : (pgs (aP A) (aF A 3)).length ≤ 300
  · have c2 : ¬ (300 : Int32) < nI (pgs (aP A) (aF A 3)).length := nI_nlt (a := 300) c1 (by decide)
    rw [if_neg c2, if_neg c2, decide_eq_true c1]
    exact ⟨_, rfl, ⟨h2, trivial⟩, h4⟩
  · have c2 : (300 : Int32) < nI (pgs (aP A) (aF A 3)).length := nI_lt (a := 300) (by omega) (by omega)
    rw [if_pos c2, if_pos c2, decide_eq_false c1]
    exact ⟨_, rfl, ⟨h2, trivial⟩, h4⟩
theorem LSq_U {σ σ' : SC} (h : LSq σ σ') : U σ' = U σ := by unfold U; rw [h.1, h.2.1]
theorem settle_y {c : Nat} {A : AS} {σ : SC} {N : Nat → Int64} (hQ : RQ c A (xL σ) N) (hl : (pgs (aP A) (aF A 3)).length ≤ 300) : m_ST_settle σ = (true, m_Journal_keep (m_Book_lay σ)) ∧ BK (m_Book_lay σ) (pgs (aP A) (aF A 3)) ∧ LSq σ (m_Book_lay σ) := by
  obtain ⟨l1, l2⟩ := lay_eq hQ.2.2.1
  refine ⟨?_, l1, l2⟩
  unfold m_ST_settle m_Book_isWithinLimit
  rw [l1.1]
  have c2 : ¬ (300 : Int32) < nI (pgs (aP A) (aF A 3)).length := nI_nlt (a := 300) hl (by decide)
  have c3 : nI (pgs (aP A) (aF A 3)).length ≤ 300 := Int32.not_lt.mp c2
  first
    | rw [if_pos c3, if_neg bt]
    | rw [if_neg c2, if_neg bt]
theorem settle_n {c : Nat} {A : AS} {σ : SC} {N : Nat → Int64} (hQ : RQ c A (xL σ) N) (h0 : 0 < aN A 0) (hl : ¬ (pgs (aP A) (aF A 3)).length ≤ 300) : m_ST_settle σ = (false, m_Book_lay (m_Journal_takeBack (m_Book_lay σ))) ∧ LSq σ (m_Book_lay σ) := by
  obtain ⟨l1, l2⟩ := lay_eq hQ.2.2.1
  have hb := (pgs_PV hQ.2.2.1 h0).2.1
  refine ⟨?_, l2⟩
  unfold m_ST_settle m_Book_isWithinLimit
  rw [l1.1]
  have c2 : (300 : Int32) < nI (pgs (aP A) (aF A 3)).length := nI_lt (a := 300) (by omega) (by omega)
  have c3 : ¬ nI (pgs (aP A) (aF A 3)).length ≤ 300 := Int32.not_le.mpr c2
  first
    | rw [if_neg c3, if_pos bf]
    | rw [if_pos c2, if_pos bf]
theorem zn_id {s : SC} {k : Nat} {v : Int32} (h : xn s k = v) : zn s k v = s := by
  unfold zn
  have e : va_up s.2.2.1 k v = s.2.2.1 := by
    funext j
    by_cases z : j = k
    · subst z; rw [va_up_self]; exact h.symm
    · rw [va_up_ne _ _ z]
  rw [e]
/-- a change that is kept, its pages laid anew -/
theorem fin_y {c : Nat} (hc : c + 1 ≤ 1000) {σ σ1 : SC} {τ τ3 : SM} {A A' : AS} (hA : RR c A (xL σ) (yL τ 0)) (ho : xo σ = []) (hH : HI c σ τ (xL σ)) (hs : sk σ σ1) (hQ : RQ (c + 1) A' (xL σ1) (yL τ3 0)) (hl : (pgs (aP A') (aF A' 3)).length ≤ 300)
    (hb1 : ∀ k, k < 3842 → yL τ3 1 k = yL τ 0 k) (hb2 : yL τ3 2 = yL τ 2) (hyn : ∀ k, 1 ≤ k → k < 3 → yn τ3 k = yn τ k) (h0 : yn τ3 0 = 0) (hn : aN A' 0 = aN A 0) : k_Mo_done τ3 ∧ RL (c + 1) (zn (m_Journal_keep (m_Book_lay σ1)) 3 (yn τ3 3)) (m_Mo_done τ3) ∧ yn (m_Mo_done τ3) 0 = 0 ∧ nsh σ ≤ nsh (zn (m_Journal_keep (m_Book_lay σ1)) 3 (yn τ3 3)) + 1 := by
  obtain ⟨-, l1, l2⟩ := settle_y hQ hl
  generalize m_Book_lay σ1 = B at l1 l2 ⊢
  have hU : U B = xL σ := by rw [LSq_U l2, hs.1]; unfold U; rw [ho]; rfl
  obtain ⟨n, i, f, g1, g2, g3, g4, g5, g6, g7, g8⟩ := id hH
  obtain ⟨d1, d2, d3, d4, d5, d6⟩ := act_done hc hA hH hU (fun k hk => by rw [l2.2.2.2 k (by omega), hs.2.2.1]) (l2.2.2.1.trans hs.2.2.2) hb1 hb2 hyn (by rw [l2.1, (hQ.rr hl).ns, hn]; exact Nat.le_succ _)
  obtain ⟨k1, k2, k3⟩ := keep_L B
  obtain ⟨-, -, q3, -⟩ := keep_n (σ := B) g1 g2 (by rw [l2.2.2.2 0 (by decide), hs.2.2.1, g4]) (by rw [l2.2.2.2 1 (by decide), hs.2.2.1, g5])
  generalize m_Journal_keep B = K at d1 k1 k2 k3 q3 ⊢
  refine ⟨d2, ⟨A', ?_, k3, ?_, (fun z => by rw [d6] at z; cases z), ?_, ?_⟩, by rw [d4]; exact h0, by show nsL (xL σ) ≤ nsL (xL K) + 1; rw [k1, l2.1, hA.ns, (hQ.rr hl).ns, hn]; exact Nat.le_succ _⟩
  · show RR (c + 1) A' (xL K) _
    rw [k1, d3, l2.1]; exact hQ.rr hl
  · have hB := l1
    unfold BK at hB ⊢
    have e2 : xn (zn K 3 (yn τ3 3)) 2 = xn B 2 := by rw [xn_zn, if_neg (by decide), q3 2 (by decide)]
    have eI : xI (zn K 3 (yn τ3 3)) = xI B := k2
    rw [e2, eI]; exact hB
  · rw [xn_zn, if_pos rfl, d5]
  · obtain ⟨n', i', f', z1, z2, z3, z4, z5, z6⟩ := d1
    exact ⟨n', i', f', z1, z2, z3, z4, z5, by refine ⟨z6.1, z6.2.1, ?_⟩; have z7 := z6.2.2; rw [← k1] at z7; exact z7⟩
/-- a change that is taken back -/
theorem fin_n {c : Nat} (hc : c + 1 ≤ 1000) {σ σ1 : SC} {τ τ3 : SM} {A : AS} (hA : RR c A (xL σ) (yL τ 0)) (ho : xo σ = []) (hH : HI c σ τ (xL σ)) (hlo : xn σ 3 = yn τ 3) (hs : sk σ σ1) (hl : LSq σ1 (m_Book_lay σ1)) (hb : BG τ τ3) :
    k_Mo_giveBack τ3 ∧ RL (c + 1) (m_Book_lay (m_Journal_takeBack (m_Book_lay σ1))) (m_Mo_giveBack τ3) ∧ yn (m_Mo_giveBack τ3) 0 = 0 ∧ nsh σ ≤ nsh (m_Book_lay (m_Journal_takeBack (m_Book_lay σ1))) + 1 := by
  generalize m_Book_lay σ1 = B at hl ⊢
  have hU : U B = xL σ := by rw [LSq_U hl, hs.1]; unfold U; rw [ho]; rfl
  have t1 : xL (m_Journal_takeBack B) = xL σ := by
    unfold m_Journal_takeBack
    show xL (unw (xo B) B) = _
    rw [unw_xL]; exact hU
  have t2 : xo (m_Journal_takeBack B) = [] := rfl
  have t3 : xn (m_Journal_takeBack B) = xn B := by unfold m_Journal_takeBack; rw [xn_zo, xn_unw]
  have t4 : xa (m_Journal_takeBack B) = xa B := by unfold m_Journal_takeBack; rw [xa_zo, xa_unwq]
  generalize m_Journal_takeBack B = T at t1 t2 t3 t4 ⊢
  obtain ⟨l1, l2⟩ := lay_eq (σ := T) (N := yL τ 0) (by rw [t1]; exact hA.2.2.1)
  generalize m_Book_lay T = W at l1 l2 ⊢
  obtain ⟨b1, b2⟩ := giveBack_eq τ3
  obtain ⟨n, i, f, g1, g2, g3, g4, g5, g6, g7, g8⟩ := hH
  have ex : ∀ k, k ≠ 2 → xn W k = xn σ k := fun k hk => by rw [l2.2.2.2 k hk, t3, hl.2.2.2 k hk, hs.2.2.1]
  have eL : xL W = xL σ := l2.1.trans t1
  have ea : xa W = xa σ := by rw [l2.2.2.1, t4, hl.2.2.1, hs.2.2.2]
  rw [b1]
  refine ⟨b2, ⟨A, ?_, l2.2.1.trans t2, l1, (fun z => by cases z), ?_, n, i, f, g1, g2, g3, ?_, ?_, ?_, ?_, ?_⟩, hb.2.2.2, by show nsL (xL σ) ≤ nsL (xL W) + 1; rw [eL]; exact Nat.le_succ _⟩
  · rw [eL]
    refine (hA.up hc).cg fun k hk => ?_
    rw [yL_wf, yL_wR, cpN_in hk, hb.1 k hk]
  · rw [ex 3 (by decide), hlo]; exact (hb.2.2.1 3 (by decide) (by decide)).symm
  · rw [ex 0 (by decide), g4]
  · rw [ex 1 (by decide), g5]
  · exact (hb.2.2.1 1 (by decide) (by decide)).trans g6
  · exact (hb.2.2.1 2 (by decide) (by decide)).trans g7
  · rw [ea, eL, yL_wf, yL_wRn _ _ (by decide), hb.2.1]
    exact hs_up hc g8
theorem BG.tm {τ τ1 τ2 : SM} (h : BG τ τ1) (t : TM τ1 τ2) : BG τ τ2 :=
  ⟨fun k hk => by rw [t.2.1]; exact h.1 k hk, by rw [t.2.2.1]; exact h.2.1, fun k h1 h2 => by rw [t.2.2.2.1 k (by omega)]; exact h.2.2.1 k h1 h2, by rw [t.2.2.2.1 0 (by decide)]; exact h.2.2.2⟩
/-- where a placement stands -/
theorem pl_split {ns np key : Nat} {al pa od cd rk : Nat → Nat} {pl : Nat → List Nat} {L2 L3 L4 N : Nat → Int64} (hR : R2 ns np key al pa od cd rk pl L2 L3 L4 N) {p : Nat} (hp : p < 60) (ha : al p ≠ 0) : ∃ x r, pl (pa p) = x ++ p :: r := by
  have hs : pa p < 24 := by have := (hR.1 p hp ha).2.1; have := hR.2.2.2.2.2.1; omega
  have hm := ((hR.2.2.1 _ hs).2.1 p).mpr ⟨hp, ha, rfl⟩
  obtain ⟨x, r, h⟩ := List.append_of_mem hm
  exact ⟨x, r, h⟩
theorem op_place {c : Nat} (hc : c + 1 ≤ 1000) {σ : SC} {τ : SM} (h : RL c σ τ) (x y : Int32) : okX (c + 1) σ (m_ST_place σ x y) (k_Mo_place τ x y) (m_Mo_place τ x y) := by
  have hup := h.up hc
  obtain ⟨A, hA, ho, hB, hP, hl, hH⟩ := h
  have b := hA.1.1.2.2.2
  have b1 := hA.1.2.1.2.2
  unfold m_ST_place m_Mo_place k_Mo_place m_ST_needSheet
  rcases sh_cases hA x with ⟨a1, a2, a3⟩ | ⟨s, hs, rfl, a1, a2, a3⟩
  · rw [a1, a2, if_pos bf, if_pos bf, if_pos bf]
    exact okX_no ⟨a3, trivial⟩ rfl (hup.th 1)
  · rw [a1, a2, if_neg bt, if_neg bt, if_neg bt]
    rcases sh_cases hA y with ⟨d1, d2, d3⟩ | ⟨cc, hcc, rfl, d1, d2, d3⟩
    · rw [d1, d2, if_pos bf, if_pos bf, if_pos bf]
      exact okX_no ⟨a3, d3, trivial⟩ rfl (hup.th 1)
    · rw [d1, d2, if_neg bt, if_neg bt, if_neg bt]
      have e1 : m_Mo_count (wn τ 0 0) 1 = nI (aN A 1) := ct1 (τ := wn τ 0 0) hA
      have el : m_Sheets_placementsLeft σ = nI (60 - aN A 1) := by
        unfold m_Sheets_placementsLeft; rw [cc1 hA]; exact pk_sub (a := 60) b1
      rw [e1, el]
      by_cases c60 : aN A 1 = 60
      · have w1 : nI (60 - aN A 1) < 1 := by rw [c60]; decide
        have w2 : nI (aN A 1) = 60 := by rw [c60]; rfl
        rw [if_pos w2, if_pos w2]
        show okX (c + 1) σ (if nI (60 - aN A 1) < 1 then some (-1, σ) else _) _ _
        rw [if_pos w1]
        exact okX_mk ⟨a3, d3, count_k (k := 1) (by decide), trivial⟩ rfl rfl (hup.th 0)
      · have w1 : ¬ nI (60 - aN A 1) < 1 := nI_nlt (b := 1) (by omega) (by omega)
        have w2 : ¬ nI (aN A 1) = 60 := fun z => c60 ((nI_eq (b := 60) (by omega) (by decide)).mp z)
        rw [if_neg w2, if_neg w2]
        show okX (c + 1) σ (if nI (60 - aN A 1) < 1 then some (-1, σ) else if bi (m_Sheets_holds σ (nI cc) (nI s)) = 0 then if bi (m_ST_settle (m_Sheets_addPlacement σ (nI s) (nI cc)).2).1 = 0 then some (-1, (m_ST_settle (m_Sheets_addPlacement σ (nI s) (nI cc)).2).2) else some ((m_Sheets_addPlacement σ (nI s) (nI cc)).1, (m_ST_settle (m_Sheets_addPlacement σ (nI s) (nI cc)).2).2) else some (-1, σ)) _ _
        rw [if_neg w1]
        obtain ⟨v1, v2⟩ := lies_eq (τ := wn τ 0 0) (s := cc) (o := s) hA.2.2.1 hA.1.2.1.2.1 (by omega) (by omega)
        rw [v1, holds_eq hA.2.2.1 (s := cc) (o := s) (by omega) (by omega)]
        cases ht : tb (clo (aF A 0) (aF A 1) (aF A 3) cc) s with
        | true =>
          rw [if_neg bt, if_neg bt, if_neg bt]
          exact okX_mk ⟨a3, d3, count_k (k := 1) (by decide), v2, trivial⟩ rfl rfl (hup.th 0)
        | false =>
          rw [if_pos bf, if_pos bf, if_pos bf]
          obtain ⟨g1, g2, g3⟩ := BG_begin τ
          generalize m_Mo_begin (wn τ 0 0) = τb at g1 g2 g3 ⊢
          have hR := hA.2.2.1
          have ky := key30 hA
          have hcd := cd_lt hR
          have hpa : ∀ p, aF A 0 p ≠ 0 → p < 60 := fun p ha => Nat.lt_of_not_le fun z => ha (hR.2.2.2.2.1 p z)
          obtain ⟨rk', r1, r2, r3⟩ := rank_add (clo (aF A 0) (aF A 1) (aF A 3) cc) (s := s) (cc := cc) (by omega) (by omega) (fun p ha => ⟨by have := (hR.1 p (hpa p ha) ha).2.1; omega, hcd p ha⟩) (fun p ha => (hR.1 p (hpa p ha) ha).2.2.2.2.1) hR.2.2.2.1 (fun p ha w => clo_closed hcd (by omega) (hpa p ha) ha w) (clo_self (by omega)) ht
          obtain ⟨m1, m2, m3, m4⟩ := addPlacement_M (τ := τb) (p := aN A 1) (key := aN A 6) (s := s) (cc := cc) (by omega) (by omega) (by omega) (by rw [g2]; exact hA.1.2.1.2.1) (by rw [g2]; exact hA.1.2.2.2.2.2.2.1)
          obtain ⟨p1, p2, p3⟩ := addPlacement_C (σ := σ) (s := s) (cc := cc) (p := aN A 1) (by omega) (by omega) (by omega) hA.1.2.1.1 (hR.2.2.1 s (by omega)).1 (pl_len hR (by omega)) (lastc_lt hR (by omega) (List.append_nil _).symm)
          generalize m_Mo_addPlacement τb (nI s) (nI cc) = Z at m1 m2 m3 ⊢
          generalize m_Sheets_addPlacement σ (nI s) (nI cc) = Y at p1 p2 p3 ⊢
          have hQ : ∃ A', RQ (c + 1) A' (xL Y.2) (yL Z.2 0) ∧ aN A' 0 = aN A 0 := by
            refine ⟨(va_up (va_up (aN A) 1 (aN A 1 + 1)) 6 (aN A 6 + 1), va_up (va_up (va_up (va_up (va_up (aF A) 0 (va_up (aF A 0) (aN A 1) 1)) 1 (va_up (aF A 1) (aN A 1) s)) 2 (va_up (aF A 2) (aN A 1) (aN A 6))) 3 (va_up (aF A 3) (aN A 1) cc)) 4 rk', va_up (aP A) s (aP A s ++ [aN A 1]), aG A), ?_, rfl⟩
            rw [p3]
            obtain ⟨h0, h1, h2, h3, h4, h5, h6, h7⟩ := hA.up hc
            obtain ⟨t1, t2, t3, t4, t5, t6, t7⟩ := m3
            rw [g2] at t7
            generalize yL Z.2 0 = N' at t1 t2 t3 t4 t5 t6 t7 ⊢
            have hr : ∀ j, j ≠ 0 → j ≠ 2 → j ≠ 3 → j ≠ 4 → sL (sL (sL (sL (xL σ) 0 1 (lN (aN A 1 + 1))) 2 (aN A 1) (lN cc)) 3 (aN A 1) (lN s)) 4 (lastc (60 + s) (aP A s)) (lN (aN A 1)) j = xL σ j := fun j w1 w2 w3 w4 => by rw [sL_row w4, sL_row w3, sL_row w2, sL_row w1]
            have ra : sL (sL (sL (sL (xL σ) 0 1 (lN (aN A 1 + 1))) 2 (aN A 1) (lN cc)) 3 (aN A 1) (lN s)) 4 (lastc (60 + s) (aP A s)) (lN (aN A 1)) 0 1 = lN (aN A 1 + 1) := by rw [sL_row (by decide), sL_row (by decide), sL_row (by decide), sL_same]
            have rb : sL (sL (sL (sL (xL σ) 0 1 (lN (aN A 1 + 1))) 2 (aN A 1) (lN cc)) 3 (aN A 1) (lN s)) 4 (lastc (60 + s) (aP A s)) (lN (aN A 1)) 0 0 = xL σ 0 0 := by rw [sL_row (by decide), sL_row (by decide), sL_row (by decide), sL_cell (by decide)]
            have rc : sL (sL (sL (sL (xL σ) 0 1 (lN (aN A 1 + 1))) 2 (aN A 1) (lN cc)) 3 (aN A 1) (lN s)) 4 (lastc (60 + s) (aP A s)) (lN (aN A 1)) 2 (aN A 1) = lN cc := by rw [sL_row (by decide), sL_row (by decide), sL_same]
            have rd : ∀ j, j ≠ aN A 1 → sL (sL (sL (sL (xL σ) 0 1 (lN (aN A 1 + 1))) 2 (aN A 1) (lN cc)) 3 (aN A 1) (lN s)) 4 (lastc (60 + s) (aP A s)) (lN (aN A 1)) 2 j = xL σ 2 j := fun j hj => by rw [sL_row (by decide), sL_row (by decide), sL_cell hj, sL_row (by decide)]
            have re : sL (sL (sL (sL (xL σ) 0 1 (lN (aN A 1 + 1))) 2 (aN A 1) (lN cc)) 3 (aN A 1) (lN s)) 4 (lastc (60 + s) (aP A s)) (lN (aN A 1)) 3 (aN A 1) = lN s := by rw [sL_row (by decide), sL_same]
            have rf : ∀ j, j ≠ aN A 1 → sL (sL (sL (sL (xL σ) 0 1 (lN (aN A 1 + 1))) 2 (aN A 1) (lN cc)) 3 (aN A 1) (lN s)) 4 (lastc (60 + s) (aP A s)) (lN (aN A 1)) 3 j = xL σ 3 j := fun j hj => by rw [sL_row (by decide), sL_cell hj, sL_row (by decide), sL_row (by decide)]
            have rg : sL (sL (sL (sL (xL σ) 0 1 (lN (aN A 1 + 1))) 2 (aN A 1) (lN cc)) 3 (aN A 1) (lN s)) 4 (lastc (60 + s) (aP A s)) (lN (aN A 1)) 4 = vp_updL (xL σ 4) (lastc (60 + s) (aP A s)) (lN (aN A 1)) := by
              funext j; rw [sL_eq]; simp only [true_and, vp_updL]; split
              · rfl
              · rw [sL_row (by decide), sL_row (by decide), sL_row (by decide)]
            generalize sL (sL (sL (sL (xL σ) 0 1 (lN (aN A 1 + 1))) 2 (aN A 1) (lN cc)) 3 (aN A 1) (lN s)) 4 (lastc (60 + s) (aP A s)) (lN (aN A 1)) = L' at hr ra rb rc rd re rf rg ⊢
            have hN : ∀ i, i ≠ 1 → i ≠ 6 → i < 32 ∨ 2132 ≤ i → N' i = yL τ 0 i := fun i w1 w2 w3 => t7 i w1 w2 (by omega) (by omega) (by omega) (by omega)
            have q0 : R0 (va_up (va_up (aN A) 1 (aN A 1 + 1)) 6 (aN A 6 + 1)) (c + 1) L' N' := by
              unfold R0
              rw [rb, ra, hr 6 (by decide) (by decide) (by decide) (by decide), hr 12 (by decide) (by decide) (by decide) (by decide), hr 18 (by decide) (by decide) (by decide) (by decide), hN 0 (by omega) (by omega) (by omega), t1, hN 2 (by omega) (by omega) (by omega), hN 3 (by omega) (by omega) (by omega), hN 4 (by omega) (by omega) (by omega), hN 5 (by omega) (by omega) (by omega), t2]
              have hk6 := hA.1.2.2.2.2.2.2.2.1
              exact ⟨h0.1, ⟨rfl, rfl, show aN A 1 + 1 ≤ 60 by omega⟩, h0.2.2.1, h0.2.2.2.1, h0.2.2.2.2.1, h0.2.2.2.2.2.1, rfl, show aN A 6 + 1 ≤ 200 * (c + 1) by omega, hc⟩
            have q2 := R2_add (rk' := rk') (L2' := L' 2) (L3' := L' 3) (L4' := L' 4) (N' := N') h2 hs hcc (by omega) (by omega) r1 r2 r3 rc rd re rf rg t3 t4 t5 (fun i w1 w2 w3 w4 w5 => t7 i (by omega) (by omega) w3 w4 w5 (by omega))
            have q3 : R3 (aN A 1 + 1) (va_up (aF A 0) (aN A 1) 1) (L' 5) N' := by
              intro p n hp hn
              rw [hr 5 (by decide) (by decide) (by decide) (by decide)]
              by_cases e : p = aN A 1
              · subst e
                refine ⟨fun _ => ⟨0, by omega, ?_, ?_⟩, fun w => by omega⟩
                · rw [t6 n hn]; decide
                · rw [(h3 (aN A 1) n hp hn).2 (Nat.le_refl _)]; decide
              · rw [va_up_ne _ _ e, t7 _ (by omega) (by omega) (by omega) (by omega) (by omega) (by omega)]
                exact ⟨(h3 p n hp hn).1, fun w => (h3 p n hp hn).2 (by omega)⟩
            exact ⟨q0, (by show R1 (aN A 0) (L' 1) N'; rw [hr 1 (by decide) (by decide) (by decide) (by decide)]; exact h1.cg h0.1.2.2.2 fun i _ _ => hN i (by omega) (by omega) (by omega)), q2, q3, (by show R4 (aN A 0) (aN A 2) (aN A 6 + 1) _ _ _ _ _ (L' 7) (L' 8) (L' 9) (L' 10) (L' 11) N'; rw [hr 7 (by decide) (by decide) (by decide) (by decide), hr 8 (by decide) (by decide) (by decide) (by decide), hr 9 (by decide) (by decide) (by decide) (by decide), hr 10 (by decide) (by decide) (by decide) (by decide), hr 11 (by decide) (by decide) (by decide) (by decide)]; exact (h4.mono (by omega) (by omega) (by omega) (by omega)).cg fun i _ _ => hN i (by omega) (by omega) (by omega)), (by show R5 (aN A 3) (L' 13) N'; rw [hr 13 (by decide) (by decide) (by decide) (by decide)]; exact h5.cg h0.2.2.2.1.2.2 fun i _ _ => hN i (by omega) (by omega) (by omega)), (by show R6 (aN A 4) (L' 14) (L' 15) (L' 16) (L' 17) N'; rw [hr 14 (by decide) (by decide) (by decide) (by decide), hr 15 (by decide) (by decide) (by decide) (by decide), hr 16 (by decide) (by decide) (by decide) (by decide), hr 17 (by decide) (by decide) (by decide) (by decide)]; exact h6.cg h0.2.2.2.2.1.2.2 fun i _ _ => hN i (by omega) (by omega) (by omega))⟩
          obtain ⟨A', hQ, hn0⟩ := hQ
          obtain ⟨τ2, x1, x2, x3⟩ := room_M hQ
          rw [x1]
          have bg := (m2 τ g1).tm x3
          by_cases cl : (pgs (aP A') (aF A' 3)).length ≤ 300
          · obtain ⟨y1, z2, z3⟩ := settle_y hQ cl
            obtain ⟨k1, k2, k3, k4⟩ := fin_y (A' := A') (τ3 := τ2) hc hA ho hH p2 (by rw [x3.1]; exact hQ) cl bg.1 bg.2.1 (fun k h1 h2 => bg.2.2.1 k h1 (by omega)) bg.2.2.2 hn0
            have e3 : yn τ2 3 = xn σ 3 := (bg.2.2.1 3 (by decide) (by decide)).trans hl.symm
            obtain ⟨nn, ii, ff, gg1, gg2, gg3, gg4, gg5, -⟩ := id hH
            obtain ⟨-, -, qq3, -⟩ := keep_n (σ := m_Book_lay Y.2) gg1 gg2 (by rw [z3.2.2.2 0 (by decide), p2.2.2.1, gg4]) (by rw [z3.2.2.2 1 (by decide), p2.2.2.1, gg5])
            have e4 : zn (m_Journal_keep (m_Book_lay Y.2)) 3 (yn τ2 3) = m_Journal_keep (m_Book_lay Y.2) := zn_id (by rw [qq3 3 (by decide), z3.2.2.2 3 (by decide), p2.2.2.1, e3])
            rw [e4] at k2 k4
            rw [decide_eq_true cl, y1]
            generalize m_Journal_keep (m_Book_lay Y.2) = K at k2 k4 ⊢
            rw [if_neg bt, if_neg bt, if_neg bt, p1, m1]
            exact okX_mk ⟨a3, d3, count_k (k := 1) (by decide), v2, g3, m4, x2, k1, trivial⟩ k3 rfl k2 k4
          · obtain ⟨y1, y2⟩ := settle_n hQ hQ.1.1.2.2.1 cl
            obtain ⟨k1, k2, k3, k4⟩ := fin_n hc hA ho hH hl p2 y2 bg
            rw [decide_eq_false cl, y1]
            generalize m_Book_lay (m_Journal_takeBack (m_Book_lay Y.2)) = K at k2 k4 ⊢
            rw [if_pos bf, if_pos bf, if_pos bf]
            exact okX_mk ⟨a3, d3, count_k (k := 1) (by decide), v2, g3, m4, x2, k1, trivial⟩ k3 rfl k2 k4
