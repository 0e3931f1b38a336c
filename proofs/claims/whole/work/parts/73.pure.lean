theorem op_move {c : Nat} (hc : c + 1 ≤ 1000) {σ : SC} {τ : SM} (h : RL c σ τ) (x y : Int32) : okX (c + 1) σ (m_ST_move σ x y) (k_Mo_move τ x y) (m_Mo_move τ x y) := by
  have hup := h.up hc
  obtain ⟨A, hA, ho, hB, hP, hl, hH⟩ := h
  have b := hA.1.1.2.2.2
  unfold m_ST_move m_Mo_move k_Mo_move m_ST_needPlacement m_ST_needSheet
  rcases pc_cases hA x with ⟨a1, a2, a3⟩ | ⟨p, hp, ha, rfl, a1, a2, a3⟩
  · rw [a1, a2, if_pos bf, if_pos bf, if_pos bf]
    exact okX_no ⟨a3, trivial⟩ rfl (hup.th 1)
  · rw [a1, a2, if_neg bt, if_neg bt, if_neg bt]
    rcases sh_cases hA y with ⟨d1, d2, d3⟩ | ⟨s, hs, rfl, d1, d2, d3⟩
    · rw [d1, d2, if_pos bf, if_pos bf, if_pos bf]
      exact okX_no ⟨a3, d3, trivial⟩ rfl (hup.th 1)
    · rw [d1, d2, if_neg bt, if_neg bt, if_neg bt]
      have hR := hA.2.2.1
      obtain ⟨u1, u2, u3, u4, u5, u6, u7⟩ := alM hR hp ha
      have e92 : ((92 : Int32) + nI p).toNatClampNeg = 92 + p := clA 92 (by omega)
      have e32 : ((32 : Int32) + nI p).toNatClampNeg = 32 + p := clA 32 (by omega)
      have e152 : ((152 : Int32) + nI p).toNatClampNeg = 152 + p := clA 152 (by omega)
      obtain ⟨v1, v2⟩ := lies_eq (τ := wn τ 0 0) (s := aF A 3 p) (o := s) hA.2.2.1 hA.1.2.1.2.1 (by omega) (by omega)
      rw [e92, e32, e152, int6, yL_wn, u3, lN_i, v1, nI_l (show s < 2 ^ 31 by omega), f33]
      show okX (c + 1) σ (if bi (m_Sheets_holds σ (m_Sheets_sheetOf σ (nI p)) (nI s)) = 0 then if bi (m_ST_settle (m_Sheets_bringTo σ (nI p) (nI s)).2).1 = 0 then some (false, (m_ST_settle (m_Sheets_bringTo σ (nI p) (nI s)).2).2) else some (true, zn (m_ST_settle (m_Sheets_bringTo σ (nI p) (nI s)).2).2 3 (m_Sheets_bringTo σ (nI p) (nI s)).1) else some (false, σ)) _ _
      rw [sheetOf_al hR ha, holds_eq hR (s := aF A 3 p) (o := s) (by omega) (by omega)]
      cases ht : tb (clo (aF A 0) (aF A 1) (aF A 3) (aF A 3 p)) s with
      | true =>
        rw [if_neg bt, if_neg bt, if_neg bt]
        exact okX_mk ⟨a3, d3, inA 92 (by omega), v2, trivial⟩ rfl rfl (hup.th 0)
      | false =>
        rw [if_pos bf, if_pos bf, if_pos bf]
        obtain ⟨g1, g2, g3⟩ := BG_begin τ
        generalize m_Mo_begin (wn τ 0 0) = τb at g1 g2 g3 ⊢
        have ky := key30 hA
        have hcd := cd_lt hR
        have hpa : ∀ p, aF A 0 p ≠ 0 → p < 60 := fun p ha => Nat.lt_of_not_le fun z => ha (hR.2.2.2.2.1 p z)
        obtain ⟨rk', r1, r2, r3⟩ := rank_add (clo (aF A 0) (aF A 1) (aF A 3) (aF A 3 p)) (s := s) (cc := aF A 3 p) (by omega) (by omega) (fun p ha => ⟨by have := (hR.1 p (hpa p ha) ha).2.1; omega, hcd p ha⟩) (fun p ha => (hR.1 p (hpa p ha) ha).2.2.2.2.1) hR.2.2.2.1 (fun p ha w => clo_closed hcd (by omega) (hpa p ha) ha w) (clo_self (by omega)) ht
        -- the reference
        have k6 : yL (wL τb 0 (32 + p) (lN s)) 0 6 = lN (aN A 6) := by rw [yL_wL, if_neg (by omega), g2]; exact hA.1.2.2.2.2.2.2.1
        have k6' : yL (wL (wL τb 0 (32 + p) (lN s)) 0 (152 + p) (lN (aN A 6))) 0 6 = lN (aN A 6) := by rw [yL_wL, if_neg (by omega)]; exact k6
        rw [k6, k6', lN_1]
        have hJ0 : ∀ n, n < 32 → (yL τ 0 (212 + 32 * p + n)).toInt.toNat ≤ 32 ∧ yL τ 0 (212 + 32 * p + n) = lN (yL τ 0 (212 + 32 * p + n)).toInt.toNat ∧ xL σ 5 (32 * p + n) = lN (yL τ 0 (212 + 32 * p + n)).toInt.toNat - 1 := fun n hn => by
          obtain ⟨j, w1, w2, w3⟩ := (hA.2.2.2.1 p n hp hn).1 ha
          have : (yL τ 0 (212 + 32 * p + n)).toInt.toNat = j := by rw [w2, lN_toInt (by omega)]; rfl
          rw [this]; exact ⟨w1, w2, w3⟩
        generalize hJe : (fun n => (yL τ 0 (212 + 32 * p + n)).toInt.toNat) = J
        have hJ : ∀ n, n < 32 → J n ≤ 32 ∧ yL τ 0 (212 + 32 * p + n) = lN (J n) ∧ xL σ 5 (32 * p + n) = lN (J n) - 1 := fun n hn => by rw [← hJe]; exact hJ0 n hn
        obtain ⟨NM, hNM⟩ : ∃ NM, (yL τ 0 (8 + s)).toInt32 = NM := ⟨_, rfl⟩
        have rd : ∀ i, yL (wL (wL (wL τb 0 (32 + p) (lN s)) 0 (152 + p) (lN (aN A 6))) 0 6 (lN (aN A 6 + 1))) 0 i = if i = 6 then lN (aN A 6 + 1) else if i = 152 + p then lN (aN A 6) else if i = 32 + p then lN s else yL τ 0 i := fun i => by
          rw [yL_wL, yL_wL, yL_wL, g2]; simp
        obtain ⟨τ', m1, m2, m3, m4, m5⟩ := move_l (p := p) (s := s) (NM := NM) (J := J) hp (by omega) (fun n hn => (hJ n hn).1) 32 0 (wL (wL (wL τb 0 (32 + p) (lN s)) 0 (152 + p) (lN (aN A 6))) 0 6 (lN (aN A 6 + 1))) 0 (by omega) (by rw [rd, if_neg (by omega), if_neg (by omega), if_neg (by omega)]; exact hNM) (fun i _ hi => by rw [rd, if_neg (by omega), if_neg (by omega), if_neg (by omega)]; exact (hJ i hi).2.1)
        rw [nI_0] at m1 m2
        rw [m1]
        have bg := m3 τ (((g1.l _ _).l _ _).l _ _)
        -- the class
        obtain ⟨xx, rr, hx⟩ := pl_split hR hp ha
        obtain ⟨c1, c2⟩ := unlink_C hR hp ha hx
        have hnp := (hR.1 p hp ha).1
        have l4u : xL (m_Sheets_unlink σ (nI p)) 4 = vp_updL (vp_updL (xL σ 4) (lastc (60 + aF A 1 p) xx) (xL σ 4 p)) p (-1) := by
          rw [c2]; funext j; rw [sL_eq, sL_eq]; simp only [true_and, vp_updL]
        have lru : ∀ k, k ≠ 4 → xL (m_Sheets_unlink σ (nI p)) k = xL σ k := fun k hk => by rw [c2, sL_row hk, sL_row hk]
        have hv := R2_del (L3' := vp_updL (xL σ 3) p (-1)) (L4' := xL (m_Sheets_unlink σ (nI p)) 4) (N' := vp_updL (yL τ 0) (152 + p) (-1)) hR hp ha hx pk_uLs (fun j hj => vu hj) l4u pk_uLs (fun i _ _ hi => vu hi)
        unfold m_Sheets_bringTo
        rw [f33]
        generalize m_Sheets_unlink σ (nI p) = Y at c1 l4u lru hv ⊢
        obtain ⟨c3, c4⟩ := append_C (σ := Y) (s := s) (p := p) (by omega) hp (hv.2.2.1 s (by omega)).1 (pl_len hv (by omega))
        have c5 := c4 (lastc_lt hv (show s < 24 by omega) (List.append_nil _).symm)
        have c6 := c1.tr c3
        generalize m_Sheets_append Y (nI p) (nI s) = V at c3 c5 c6 ⊢
        have vr : ∀ k, k ≠ 3 → k ≠ 4 → xL V k = xL σ k := fun k w1 w2 => by rw [c5, sL_row w2, sL_row w1, lru k w2]
        have v3 : xL V 3 p = lN s := by rw [c5, sL_row (by decide), sL_same]
        have v3' : ∀ j, j ≠ p → xL V 3 j = xL σ 3 j := fun j hj => by rw [c5, sL_row (by decide), sL_cell hj, lru 3 (by decide)]
        have v4 : xL V 4 = vp_updL (xL Y 4) (lastc (60 + s) ((aP A s).filter (fun q => decide (q ≠ p)))) (lN p) := by
          rw [c5]; funext j; rw [sL_eq, sL_row (by decide)]; simp only [true_and, vp_updL]
        obtain ⟨n1, n2, n3, n4, n5⟩ := bring_l (p := p) (s := s) (NM := NM) (J := J) hp (by omega) (fun n hn => (hJ n hn).1) 32 0 V 0 (by omega) (by rw [vr 1 (by decide) (by decide), hA.2.1.1 s hs]; exact hNM) (fun i _ hi => by rw [vr 5 (by decide) (by decide)]; exact (hJ i hi).2.2)
        rw [nI_0] at n1 n2 n3 n4 n5
        generalize lp_Sheets_bringTo_16 (32 + 1) V (nI p) (nI s) 0 0 = W at n1 n2 n3 n4 n5 ⊢
        have hsk := c6.tr n2
        have hQ : ∃ A', RQ (c + 1) A' (xL W.2) (yL τ' 0) ∧ aN A' 0 = aN A 0 := by
          refine ⟨(va_up (aN A) 6 (aN A 6 + 1), va_up (va_up (va_up (va_up (va_up (aF A) 0 (va_up (va_up (aF A 0) p 0) p 1)) 1 (va_up (aF A 1) p s)) 2 (va_up (aF A 2) p (aN A 6))) 3 (va_up (aF A 3) p (aF A 3 p))) 4 rk', va_up (fun s => (aP A s).filter (fun q => decide (q ≠ p))) s ((aP A s).filter (fun q => decide (q ≠ p)) ++ [p]), aG A), ?_, rfl⟩
          obtain ⟨h0, h1, h2, h3, h4, h5, h6, h7⟩ := hA.up hc
          have t7 : ∀ j, j ≠ 6 → j ≠ 152 + p → j ≠ 32 + p → ¬ (212 + 32 * p ≤ j ∧ j < 212 + 32 * p + 32) → yL τ' 0 j = yL τ 0 j := fun j w1 w2 w3 w4 => by rw [m5 j (by omega), rd, if_neg w1, if_neg w2, if_neg w3]
          have t6 : yL τ' 0 6 = lN (aN A 6 + 1) := by rw [m5 6 (by omega), rd, if_pos rfl]
          have t5 : yL τ' 0 (152 + p) = lN (aN A 6) := by rw [m5 _ (by omega), rd, if_neg (by omega), if_pos rfl]
          have t3 : yL τ' 0 (32 + p) = lN s := by rw [m5 _ (by omega), rd, if_neg (by omega), if_neg (by omega), if_pos rfl]
          have t4 : yL τ' 0 (92 + p) = lN (aF A 3 p) := by rw [t7 _ (by omega) (by omega) (by omega) (by omega)]; exact u3
          generalize yL τ' 0 = N' at m4 t3 t4 t5 t6 t7 ⊢
          have hr : ∀ j, j ≠ 3 → j ≠ 4 → j ≠ 5 → xL W.2 j = xL σ j := fun j w1 w2 w3 => by rw [n3 j w3, vr j w1 w2]
          have ra : xL W.2 3 = xL V 3 := n3 3 (by decide)
          have rb : xL W.2 4 = xL V 4 := n3 4 (by decide)
          have n5' : ∀ j, ¬ (32 * p ≤ j ∧ j < 32 * p + 32) → xL W.2 5 j = xL σ 5 j := fun j hj => by rw [n5 j (by omega), vr 5 (by decide) (by decide)]
          generalize xL W.2 = L' at hr ra rb n4 n5' ⊢
          have hN : ∀ i, i ≠ 6 → i < 32 ∨ 2132 ≤ i → N' i = yL τ 0 i := fun i w1 w => t7 i w1 (by omega) (by omega) (by omega)
          have q0 : R0 (va_up (aN A) 6 (aN A 6 + 1)) (c + 1) L' N' := by
            unfold R0
            rw [hr 0 (by decide) (by decide) (by decide), hr 6 (by decide) (by decide) (by decide), hr 12 (by decide) (by decide) (by decide), hr 18 (by decide) (by decide) (by decide), hN 0 (by omega) (by omega), hN 1 (by omega) (by omega), hN 2 (by omega) (by omega), hN 3 (by omega) (by omega), hN 4 (by omega) (by omega), hN 5 (by omega) (by omega), t6]
            have hk6 := hA.1.2.2.2.2.2.2.2.1
            exact ⟨h0.1, h0.2.1, h0.2.2.1, h0.2.2.2.1, h0.2.2.2.2.1, h0.2.2.2.2.2.1, rfl, show aN A 6 + 1 ≤ 200 * (c + 1) by omega, hc⟩
          have hal : ∀ q, va_up (aF A 0) p 0 q ≠ 0 → rk' (aF A 3 q) < rk' (aF A 1 q) := fun q hq => r1 q (fun z => hq (by
            by_cases e : q = p
            · rw [e, va_up_self]
            · rw [va_up_ne _ _ e]; exact z))
          have q2 := R2_put (rk' := rk') (L2' := xL σ 2) (L3' := xL V 3) (L4' := xL V 4) (N' := N') (s := s) (cc := aF A 3 p) (p0 := p) (np' := aN A 1) hv hs (h2.1 p hp ha).2.2.1 hp (va_up_self _ _ _) hnp (Nat.le_refl _) h2.2.2.2.2.2.2.1 (fun q w _ => w) (by omega) hal r2 r3 (h2.1 p hp ha).2.2.2.2.2.2.2.2.2 (fun _ _ => rfl) v3 (fun j hj => by rw [v3' j hj, vu hj]) v4 t3 t4 t5 (fun i w1 w2 w3 w4 w5 => by rw [t7 i (by omega) w5 w3 (by omega), vu w5])
          rw [← ra, ← rb, ← hr 2 (by decide) (by decide) (by decide)] at q2
          have q3 : R3 (aN A 1) (va_up (va_up (aF A 0) p 0) p 1) (L' 5) N' := by
            intro p' n hp' hn
            by_cases e : p' = p
            · subst e
              refine ⟨fun _ => ⟨if lsj NM J n = true then 0 else J n, ?_, m4 n (Nat.zero_le _) hn, n4 n (Nat.zero_le _) hn⟩, fun w => by omega⟩
              have := (hJ n hn).1
              split <;> omega
            · rw [va_up_ne _ _ e, va_up_ne _ _ e, t7 _ (by omega) (by omega) (by omega) (by omega), n5' _ (by omega)]
              exact h3 p' n hp' hn
          exact ⟨q0, (by show R1 (aN A 0) (L' 1) N'; rw [hr 1 (by decide) (by decide) (by decide)]; exact h1.cg h0.1.2.2.2 fun i _ _ => hN i (by omega) (by omega)), q2, q3, (by show R4 (aN A 0) (aN A 2) (aN A 6 + 1) _ _ _ _ _ (L' 7) (L' 8) (L' 9) (L' 10) (L' 11) N'; rw [hr 7 (by decide) (by decide) (by decide), hr 8 (by decide) (by decide) (by decide), hr 9 (by decide) (by decide) (by decide), hr 10 (by decide) (by decide) (by decide), hr 11 (by decide) (by decide) (by decide)]; exact (h4.mono (by omega) (by omega) (by omega) (by omega)).cg fun i _ _ => hN i (by omega) (by omega)), (by show R5 (aN A 3) (L' 13) N'; rw [hr 13 (by decide) (by decide) (by decide)]; exact h5.cg h0.2.2.2.1.2.2 fun i _ _ => hN i (by omega) (by omega)), (by show R6 (aN A 4) (L' 14) (L' 15) (L' 16) (L' 17) N'; rw [hr 14 (by decide) (by decide) (by decide), hr 15 (by decide) (by decide) (by decide), hr 16 (by decide) (by decide) (by decide), hr 17 (by decide) (by decide) (by decide)]; exact h6.cg h0.2.2.2.2.1.2.2 fun i _ _ => hN i (by omega) (by omega))⟩
        obtain ⟨A', hQ, hn0⟩ := hQ
        obtain ⟨τ2, x1, x2, x3⟩ := room_M hQ
        rw [x1] at m2 ⊢
        have bg2 := bg.tm x3
        have i6 : vp_in 6 (lnML 0) := inL 6 (by omega)
        by_cases cl : (pgs (aP A') (aF A' 3)).length ≤ 300
        · obtain ⟨y1, z2, z3⟩ := settle_y hQ cl
          obtain ⟨k1, k2, k3, k4⟩ := fin_y (A' := A') (τ3 := wn τ2 3 (lm (lsj NM J) 32 0 0)) hc hA ho hH hsk (by rw [yL_wn, x3.1]; exact hQ) cl bg2.1 bg2.2.1 (fun k h1 h2 => by rw [yn_wn, if_neg (by omega)]; exact bg2.2.2.1 k h1 (by omega)) bg2.2.2.2 hn0
          have e3 : yn (wn τ2 3 (lm (lsj NM J) 32 0 0)) 3 = lm (lsj NM J) 32 0 0 := by rw [yn_wn, if_pos rfl]
          rw [e3] at k2 k4
          rw [decide_eq_true cl] at m2 ⊢
          rw [y1]
          generalize m_Journal_keep (m_Book_lay W.2) = K at k2 k4 ⊢
          rw [if_neg bt, if_neg bt] at *
          rw [n1]
          exact okX_mk ⟨a3, d3, inA 92 (by omega), v2, g3, inA 32 (by omega), i6, inA 152 (by omega), i6, i6, m2 ⟨x2, k1, trivial⟩⟩ k3 rfl k2 k4
        · obtain ⟨y1, y2⟩ := settle_n hQ hQ.1.1.2.2.1 cl
          obtain ⟨k1, k2, k3, k4⟩ := fin_n hc hA ho hH hl hsk y2 bg2
          rw [decide_eq_false cl] at m2 ⊢
          rw [y1]
          generalize m_Book_lay (m_Journal_takeBack (m_Book_lay W.2)) = K at k2 k4 ⊢
          rw [if_pos bf, if_pos bf] at *
          exact okX_mk ⟨a3, d3, inA 92 (by omega), v2, g3, inA 32 (by omega), i6, inA 152 (by omega), i6, i6, m2 ⟨x2, k1, trivial⟩⟩ k3 rfl k2 k4
