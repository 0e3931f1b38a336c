/-- the same but for rows of longs, the open act and the marks -/
def sj (σ σ' : SC) : Prop := U σ' = U σ ∧ (∀ j, j ≠ 6 → xI σ' j = xI σ j) ∧ xn σ' = xn σ ∧ xa σ' = xa σ
theorem sj_sk {σ σ' : SC} (h : sk σ σ') : sj σ σ' := ⟨h.1, fun j _ => by rw [h.2.1], h.2.2.1, h.2.2.2⟩
theorem sj_lk {σ σ' : SC} (h : LK σ σ') : sj σ σ' := ⟨by unfold U; rw [h.1, h.2.1], h.2.2.2.2, h.2.2.2.1, h.2.2.1⟩
theorem sj.tr {a b c : SC} (h : sj a b) (g : sj b c) : sj a c := ⟨g.1.trans h.1, fun j hj => (g.2.1 j hj).trans (h.2.1 j hj), g.2.2.1.trans h.2.2.1, g.2.2.2.trans h.2.2.2⟩
theorem sj_rfl (σ : SC) : sj σ σ := sj_sk (sk_rfl σ)
theorem kept_j {c : Nat} (hc : c + 1 ≤ 1000) {σ σ1 : SC} {τ τ1 : SM} {A A' : AS} (hA : RR c A (xL σ) (yL τ 0)) (ho : xo σ = []) (hB : BK σ (pgs (aP A) (aF A 3))) (hl : xn σ 3 = yn τ 3) (hH : HI c σ τ (xL σ))
    (hs : sj σ σ1) (hb : BG τ τ1) (hA' : RR (c + 1) A' (xL σ1) (yL τ1 0)) (hp : pgs (aP A') (aF A' 3) = pgs (aP A) (aF A 3)) (hn : aN A' 0 = aN A 0 + 1) : k_Mo_done τ1 ∧ RL (c + 1) (m_Journal_keep σ1) (m_Mo_done τ1) ∧ yn (m_Mo_done τ1) 0 = 0 ∧ nsh (m_Journal_keep σ1) = nsh σ + 1 := by
  have hU : U σ1 = xL σ := by rw [hs.1]; unfold U; rw [ho]; rfl
  obtain ⟨n, i, f, g1, g2, g3, g4, g5, g6, g7, g8⟩ := id hH
  obtain ⟨d1, d2, d3, d4, d5, d6⟩ := act_done hc hA hH hU (fun k _ => by rw [hs.2.2.1]) hs.2.2.2 hb.1 hb.2.1 (fun k h1 h2 => hb.2.2.1 k h1 (by omega)) (by rw [hA'.ns, hn]; exact Nat.le_refl _)
  obtain ⟨k1, k2, k3⟩ := keep_L σ1
  obtain ⟨-, -, q3, -⟩ := keep_n (σ := σ1) g1 g2 (by rw [hs.2.2.1, g4]) (by rw [hs.2.2.1, g5])
  refine ⟨d2, ⟨A', ?_, k3, ?_, (fun z => by rw [d6] at z; cases z), ?_, ?_⟩, by rw [d4]; exact hb.2.2.2, by show nsL (xL (m_Journal_keep σ1)) = nsL (xL σ) + 1; rw [k1, hA.ns, hA'.ns, hn]⟩
  · rw [k1, d3]; exact hA'
  · rw [hp]
    unfold BK at hB ⊢
    rw [k2, q3 2 (by decide), hs.2.2.1, hs.2.1 0 (by decide), hs.2.1 1 (by decide), hs.2.1 2 (by decide), hs.2.1 3 (by decide), hs.2.1 4 (by decide), hs.2.1 5 (by decide)]
    exact hB
  · rw [q3 3 (by decide), hs.2.2.1, d5, hb.2.2.1 3 (by decide) (by decide)]; exact hl
  · rw [k1]; exact d1
/-- what copying gates leaves of the abstract state -/
def CG (A A' : AS) : Prop := (∀ k, k ≠ 2 → k ≠ 6 → aN A' k = aN A k) ∧ aP A' = aP A ∧ ∀ k, k < 5 → aF A' k = aF A k
theorem CG_rfl (A : AS) : CG A A := ⟨fun _ _ _ => rfl, rfl, fun _ _ => rfl⟩
theorem CG.tr {A B C : AS} (h : CG A B) (g : CG B C) : CG A C := ⟨fun k h1 h2 => (g.1 k h1 h2).trans (h.1 k h1 h2), g.2.1.trans h.2.1, fun k hk => (g.2.2 k hk).trans (h.2.2 k hk)⟩
/-- the new parts of the parts that have come -/
def TW (A : AS) (nq0 made : Nat) (pre : List Nat) (T : Nat → Nat) (σ : SC) (τ : SM) : Prop :=
  aN A 2 = nq0 + (fdp pre).length ∧ (aG A made).length = pre.length ∧ (∀ q, q < 30 → (q ∈ fdp pre → xI σ 6 q = nI (T q) ∧ yI τ 6 q = nI (T q)) ∧ (q ∉ fdp pre → xI σ 6 q = -1 ∧ yI τ 6 q = -1)) ∧
  (∀ q, q ∈ fdp pre → nq0 ≤ T q ∧ T q < aN A 2 ∧ aF A 6 (T q) = aF A 6 q ∧ ∀ g, g < 8 → aF A 7 (8 * T q + g) ≠ 0 → 8 * q + g ∈ pre) ∧ (∀ q q', q ∈ fdp pre → q' ∈ fdp pre → T q = T q' → q = q')
/-- one more part, on both sides -/
theorem RQ_addPart {c : Nat} {A : AS} {L L' : LL} {N N' : Nat → Int64} (hQ : RQ c A L N) (hq : aN A 2 < 30) {a b : Nat} (ha : a < 26) (hb0 : 0 < b) (hb8 : b ≤ 8) (hL : L' = sL (sL (sL L 6 0 (lN (aN A 2 + 1))) 7 (aN A 2) (lN a)) 8 (aN A 2) (lN b))
    (m3 : N' 2 = lN (aN A 2 + 1)) (m4 : ∀ g, g < 8 → N' (2192 + 8 * aN A 2 + g) = 0) (m5 : N' (2132 + aN A 2) = lN a) (m6 : N' (2162 + aN A 2) = lN b) (m7 : ∀ i, i ≠ 2 → i ≠ 2132 + aN A 2 → i ≠ 2162 + aN A 2 → ¬ (2192 + 8 * aN A 2 ≤ i ∧ i < 2192 + 8 * aN A 2 + 8) → N' i = N i) :
    RQ c (va_up (aN A) 2 (aN A 2 + 1), va_up (va_up (aF A) 5 (va_up (aF A 5) (aN A 2) a)) 6 (va_up (aF A 6) (aN A 2) b), A.2.2) L' N' := by
  obtain ⟨h0, h1, h2, h3, h4, h5, h6⟩ := hQ
  have rd : ∀ k i, L' k i = if k = 8 ∧ i = aN A 2 then lN b else if k = 7 ∧ i = aN A 2 then lN a else if k = 6 ∧ i = 0 then lN (aN A 2 + 1) else L k i := fun k i => by rw [hL, sL_eq, sL_eq, sL_eq]
  have hr : ∀ j, j ≠ 6 → j ≠ 7 → j ≠ 8 → L' j = L j := fun j w1 w2 w3 => by funext i; rw [rd, if_neg (fun z => w3 z.1), if_neg (fun z => w2 z.1), if_neg (fun z => w1 z.1)]
  have r6 : L' 6 0 = lN (aN A 2 + 1) := by rw [rd, if_neg (by omega), if_neg (by omega), if_pos ⟨rfl, rfl⟩]
  have r7 : L' 7 (aN A 2) = lN a := by rw [rd, if_neg (by omega), if_pos ⟨rfl, rfl⟩]
  have r7' : ∀ j, j ≠ aN A 2 → L' 7 j = L 7 j := fun j hj => by rw [rd, if_neg (by omega), if_neg (by omega), if_neg (by omega)]
  have r8 : L' 8 (aN A 2) = lN b := by rw [rd, if_pos ⟨rfl, rfl⟩]
  have r8' : ∀ j, j ≠ aN A 2 → L' 8 j = L 8 j := fun j hj => by rw [rd, if_neg (by omega), if_neg (by omega), if_neg (by omega)]
  have hN : ∀ i, i ≠ 2 → i < 2132 ∨ 2672 ≤ i → N' i = N i := fun i w1 w2 => m7 i w1 (by omega) (by omega) (by omega)
  have q0 : R0 (va_up (aN A) 2 (aN A 2 + 1)) c L' N' := by
    unfold R0
    rw [hr 0 (by decide) (by decide) (by decide), hr 12 (by decide) (by decide) (by decide), hr 18 (by decide) (by decide) (by decide), r6, hN 0 (by omega) (by omega), hN 1 (by omega) (by omega), m3, hN 3 (by omega) (by omega), hN 4 (by omega) (by omega), hN 5 (by omega) (by omega), hN 6 (by omega) (by omega)]
    exact ⟨h0.1, h0.2.1, ⟨rfl, rfl, show aN A 2 + 1 ≤ 30 by omega⟩, h0.2.2.2.1, h0.2.2.2.2.1, h0.2.2.2.2.2⟩
  have q4 := R4_addPart (L7' := L' 7) (L8' := L' 8) (N' := N') h4 hq ha hb0 hb8 r7 r7' r8 r8' m5 m6 m4 (fun i w1 w2 w3 w4 w5 => m7 i (by omega) w3 w4 w5)
  rw [← hr 9 (by decide) (by decide) (by decide), ← hr 10 (by decide) (by decide) (by decide), ← hr 11 (by decide) (by decide) (by decide)] at q4
  exact ⟨q0, (by show R1 (aN A 0) (L' 1) N'; rw [hr 1 (by decide) (by decide) (by decide)]; exact h1.cg h0.1.2.2.2 fun i _ _ => hN i (by omega) (by omega)), (by show R2 (aN A 0) (aN A 1) (aN A 6) _ _ _ _ _ _ (L' 2) (L' 3) (L' 4) N'; rw [hr 2 (by decide) (by decide) (by decide), hr 3 (by decide) (by decide) (by decide), hr 4 (by decide) (by decide) (by decide)]; exact h2.cg fun i _ _ => hN i (by omega) (by omega)), (by show R3 (aN A 1) _ (L' 5) N'; rw [hr 5 (by decide) (by decide) (by decide)]; exact h3.cg fun i _ _ => hN i (by omega) (by omega)), q4, (by show R5 (aN A 3) (L' 13) N'; rw [hr 13 (by decide) (by decide) (by decide)]; exact h5.cg h0.2.2.2.1.2.2 fun i _ _ => hN i (by omega) (by omega)), (by show R6 (aN A 4) (L' 14) (L' 15) (L' 16) (L' 17) N'; rw [hr 14 (by decide) (by decide) (by decide), hr 15 (by decide) (by decide) (by decide), hr 16 (by decide) (by decide) (by decide), hr 17 (by decide) (by decide) (by decide)]; exact h6.cg h0.2.2.2.2.1.2.2 fun i _ _ => hN i (by omega) (by omega))⟩
theorem RQ_gate {c : Nat} {A : AS} {L L' : LL} {N N' : Nat → Int64} (hQ : RQ c A L N) {s q g : Nat} (hs : s < aN A 0) (hq : q < aN A 2) (hg : g < aF A 6 q) (hk0 : aF A 7 (8 * q + g) = 0) (hlen : (aG A s).length < 20) (hky : aN A 6 + 1 ≤ 200 * c) (hL : L' = sL (sL (sL L 9 (8 * q + g) (lN s)) 10 (20 * s + (aG A s).length) (lN (8 * q + g))) 11 s (lN ((aG A s).length + 1)))
    (m2 : N' (2192 + (8 * q + g)) = lN (s + 1)) (m3 : N' (2432 + (8 * q + g)) = lN (aN A 6)) (m4 : N' 6 = lN (aN A 6 + 1)) (m5 : ∀ i, i ≠ 6 → i ≠ 2192 + (8 * q + g) → i ≠ 2432 + (8 * q + g) → N' i = N i) :
    RQ c (va_up (aN A) 6 (aN A 6 + 1), va_up (va_up (aF A) 7 (va_up (aF A 7) (8 * q + g) (s + 1))) 8 (va_up (aF A 8) (8 * q + g) (aN A 6)), aP A, va_up (aG A) s (aG A s ++ [8 * q + g])) L' N' := by
  obtain ⟨h0, h1, h2, h3, h4, h5, h6⟩ := hQ
  have hc := h0.2.2.2.2.2.2.2.2
  have b2 := h0.2.2.1.2.2
  have hg8 := (h4.1 q hq).2.2.1
  have rd : ∀ k i, L' k i = if k = 11 ∧ i = s then lN ((aG A s).length + 1) else if k = 10 ∧ i = 20 * s + (aG A s).length then lN (8 * q + g) else if k = 9 ∧ i = 8 * q + g then lN s else L k i := fun k i => by rw [hL, sL_eq, sL_eq, sL_eq]
  have hr : ∀ j, j ≠ 9 → j ≠ 10 → j ≠ 11 → L' j = L j := fun j w1 w2 w3 => by funext i; rw [rd, if_neg (fun z => w3 z.1), if_neg (fun z => w2 z.1), if_neg (fun z => w1 z.1)]
  have r9 : L' 9 (8 * q + g) = lN s := by rw [rd, if_neg (by omega), if_neg (by omega), if_pos ⟨rfl, rfl⟩]
  have r9' : ∀ j, j ≠ 8 * q + g → L' 9 j = L 9 j := fun j hj => by rw [rd, if_neg (by omega), if_neg (by omega), if_neg (by omega)]
  have r10 : L' 10 (20 * s + (aG A s).length) = lN (8 * q + g) := by rw [rd, if_neg (by omega), if_pos ⟨rfl, rfl⟩]
  have r10' : ∀ j, j ≠ 20 * s + (aG A s).length → L' 10 j = L 10 j := fun j hj => by rw [rd, if_neg (by omega), if_neg (by omega), if_neg (by omega)]
  have r11 : L' 11 s = lN ((aG A s).length + 1) := by rw [rd, if_pos ⟨rfl, rfl⟩]
  have r11' : ∀ j, j ≠ s → L' 11 j = L 11 j := fun j hj => by rw [rd, if_neg (by omega), if_neg (by omega), if_neg (by omega)]
  have hN : ∀ i, i ≠ 6 → i < 2132 ∨ 2672 ≤ i → N' i = N i := fun i w1 w2 => m5 i w1 (by omega) (by omega)
  have q0 : R0 (va_up (aN A) 6 (aN A 6 + 1)) c L' N' := by
    unfold R0
    rw [hr 0 (by decide) (by decide) (by decide), hr 6 (by decide) (by decide) (by decide), hr 12 (by decide) (by decide) (by decide), hr 18 (by decide) (by decide) (by decide), hN 0 (by omega) (by omega), hN 1 (by omega) (by omega), hN 2 (by omega) (by omega), hN 3 (by omega) (by omega), hN 4 (by omega) (by omega), hN 5 (by omega) (by omega), m4]
    exact ⟨h0.1, h0.2.1, h0.2.2.1, h0.2.2.2.1, h0.2.2.2.2.1, h0.2.2.2.2.2.1, rfl, hky, hc⟩
  have q4 := R4_gate (L9' := L' 9) (L10' := L' 10) (L11' := L' 11) (N' := N') h4 hs hq hg hk0 hlen (by omega) r9 r9' r10 r10' r11 r11' m2 m3 (fun i w1 w2 w3 w4 => m5 i (by omega) w3 w4)
  rw [← hr 7 (by decide) (by decide) (by decide), ← hr 8 (by decide) (by decide) (by decide)] at q4
  have b0 := h0.1.2.2.2
  exact ⟨q0, (by show R1 (aN A 0) (L' 1) N'; rw [hr 1 (by decide) (by decide) (by decide)]; exact h1.cg h0.1.2.2.2 fun i _ _ => hN i (by omega) (by omega)), (by show R2 (aN A 0) (aN A 1) (aN A 6 + 1) _ _ _ _ _ _ (L' 2) (L' 3) (L' 4) N'; rw [hr 2 (by decide) (by decide) (by decide), hr 3 (by decide) (by decide) (by decide), hr 4 (by decide) (by decide) (by decide)]; exact (h2.mono (by omega) (by omega) (by omega) (by omega)).cg fun i _ _ => hN i (by omega) (by omega)), (by show R3 (aN A 1) _ (L' 5) N'; rw [hr 5 (by decide) (by decide) (by decide)]; exact h3.cg fun i _ _ => hN i (by omega) (by omega)), q4, (by show R5 (aN A 3) (L' 13) N'; rw [hr 13 (by decide) (by decide) (by decide)]; exact h5.cg h0.2.2.2.1.2.2 fun i _ _ => hN i (by omega) (by omega)), (by show R6 (aN A 4) (L' 14) (L' 15) (L' 16) (L' 17) N'; rw [hr 14 (by decide) (by decide) (by decide), hr 15 (by decide) (by decide) (by decide), hr 16 (by decide) (by decide) (by decide), hr 17 (by decide) (by decide) (by decide)]; exact h6.cg h0.2.2.2.2.1.2.2 fun i _ _ => hN i (by omega) (by omega))⟩
