/-! ===== both sides hold the same ===== -/
abbrev AS : Type := (Nat → Nat) × (Nat → Nat → Nat) × (Nat → List Nat) × (Nat → List Nat)
/-- counts: 0 sheets, 1 placements, 2 parts, 3 variants, 4 told, 6 key -/
def aN (A : AS) : Nat → Nat := A.1
/-- 0 alive, 1 parent, 2 order, 3 child, 4 rank, 5 letter, 6 gates, 7 a gate's sheet + 1, 8 a gate's place -/
def aF (A : AS) : Nat → Nat → Nat := A.2.1
def aP (A : AS) : Nat → List Nat := A.2.2.1
def aG (A : AS) : Nat → List Nat := A.2.2.2
def R0 (n : Nat → Nat) (c : Nat) (L : LL) (N : Nat → Int64) : Prop :=
  (L 0 0 = lN (n 0) ∧ N 0 = lN (n 0) ∧ 0 < n 0 ∧ n 0 ≤ 24) ∧ (L 0 1 = lN (n 1) ∧ N 1 = lN (n 1) ∧ n 1 ≤ 60) ∧ (L 6 0 = lN (n 2) ∧ N 2 = lN (n 2) ∧ n 2 ≤ 30) ∧
  (L 12 0 = lN (n 3) ∧ N 3 = lN (n 3) ∧ n 3 ≤ 10) ∧ (L 12 1 = lN (n 4) ∧ N 4 = lN (n 4) ∧ n 4 ≤ 40) ∧ (L 18 0 = N 5 ∧ (N 5 = 0 ∨ N 5 = 1)) ∧ (N 6 = lN (n 6) ∧ n 6 ≤ 200 * c ∧ c ≤ 1000)
def R1 (ns : Nat) (L1 N : Nat → Int64) : Prop := (∀ s, s < ns → (L1 s).toInt32 = (N (8 + s)).toInt32) ∧ ∀ s, ns ≤ s → s < 24 → L1 s = 0
def R3 (np : Nat) (al : Nat → Nat) (L5 N : Nat → Int64) : Prop := ∀ p n, p < 60 → n < 32 → (al p ≠ 0 → ∃ j, j ≤ 32 ∧ N (212 + 32 * p + n) = lN j ∧ L5 (32 * p + n) = lN j - 1) ∧ (np ≤ p → L5 (32 * p + n) = -1)
def R4 (ns nq key : Nat) (lt gc gs gp : Nat → Nat) (gl : Nat → List Nat) (L7 L8 L9 L10 L11 N : Nat → Int64) : Prop :=
  (∀ q, q < nq → lt q < 26 ∧ 0 < gc q ∧ gc q ≤ 8 ∧ L7 q = lN (lt q) ∧ N (2132 + q) = lN (lt q) ∧ L8 q = lN (gc q) ∧ N (2162 + q) = lN (gc q)) ∧
  (∀ k, k < 8 * nq → N (2192 + k) = lN (gs k) ∧ L9 k = lN (gs k) - 1 ∧ gs k ≤ ns ∧ (gs k ≠ 0 → N (2432 + k) = lN (gp k) ∧ gp k < key ∧ k % 8 < gc (k / 8))) ∧
  (∀ k, 8 * nq ≤ k → gs k = 0 ∧ (k < 240 → L9 k = -1)) ∧
  (∀ s, s < 24 → L11 s = lN (gl s).length ∧ (gl s).length ≤ 20 ∧ (∀ i k, (gl s)[i]? = some k → L10 (20 * s + i) = lN k) ∧ (∀ k, k ∈ gl s ↔ gs k = s + 1) ∧ (gl s).Pairwise (fun a b => gp a < gp b)) ∧ nq ≤ 30 ∧ ns ≤ 24 ∧ key < 2 ^ 30
def R5 (nv : Nat) (L13 N : Nat → Int64) : Prop := ∀ v, v < nv → L13 v = N (2672 + v) ∧ (N (2672 + v) = -1 ∨ ∃ a, a < v ∧ N (2672 + v) = lN a)
def R6 (nt : Nat) (L14 L15 L16 L17 N : Nat → Int64) : Prop := ∀ t, t < nt → ∃ vr qq wh len, vr < 10 ∧ qq < 30 ∧ wh < 2 ∧ len < 24 ∧ N (2682 + 29 * t) = lN vr ∧ N (2682 + 29 * t + 1) = lN qq ∧ N (2682 + 29 * t + 2) = lN wh ∧ N (2682 + 29 * t + 4) = lN len ∧
  L14 t = lN ((wh * 10 + vr) * 30 + qq) ∧ L15 t = N (2682 + 29 * t + 3) ∧ L16 t = lN len ∧ ∀ k, k < len → ∃ p, p < 60 ∧ L17 (23 * t + k) = lN p ∧ N (2682 + 29 * t + 5 + k) = lN p
def RR (c : Nat) (A : AS) (L : LL) (N : Nat → Int64) : Prop :=
  R0 (aN A) c L N ∧ R1 (aN A 0) (L 1) N ∧ R2 (aN A 0) (aN A 1) (aN A 6) (aF A 0) (aF A 1) (aF A 2) (aF A 3) (aF A 4) (aP A) (L 2) (L 3) (L 4) N ∧
  R3 (aN A 1) (aF A 0) (L 5) N ∧ R4 (aN A 0) (aN A 2) (aN A 6) (aF A 5) (aF A 6) (aF A 7) (aF A 8) (aG A) (L 7) (L 8) (L 9) (L 10) (L 11) N ∧
  R5 (aN A 3) (L 13) N ∧ R6 (aN A 4) (L 14) (L 15) (L 16) (L 17) N ∧ (pgs (aP A) (aF A 3)).length ≤ 300
theorem R0.cg {n : Nat → Nat} {c : Nat} {L : LL} {N N' : Nat → Int64} (h : R0 n c L N) (e : ∀ i, i < 8 → N' i = N i) : R0 n c L N' := by
  unfold R0 at h ⊢
  rw [e 0 (by decide), e 1 (by decide), e 2 (by decide), e 3 (by decide), e 4 (by decide), e 5 (by decide), e 6 (by decide)]
  exact h
theorem R1.cg {ns : Nat} {L1 N N' : Nat → Int64} (h : R1 ns L1 N) (hn : ns ≤ 24) (e : ∀ i, 8 ≤ i → i < 32 → N' i = N i) : R1 ns L1 N' :=
  ⟨fun s hs => by rw [e _ (by omega) (by omega)]; exact h.1 s hs, h.2⟩
theorem R3.cg {np : Nat} {al : Nat → Nat} {L5 N N' : Nat → Int64} (h : R3 np al L5 N) (e : ∀ i, 212 ≤ i → i < 2132 → N' i = N i) : R3 np al L5 N' := fun p n hp hn => by
  rw [e _ (by omega) (by omega)]; exact h p n hp hn
theorem R4.cg {ns nq key : Nat} {lt gc gs gp : Nat → Nat} {gl : Nat → List Nat} {L7 L8 L9 L10 L11 N N' : Nat → Int64} (h : R4 ns nq key lt gc gs gp gl L7 L8 L9 L10 L11 N) (e : ∀ i, 2132 ≤ i → i < 2672 → N' i = N i) : R4 ns nq key lt gc gs gp gl L7 L8 L9 L10 L11 N' := by
  have hq := h.2.2.2.2.1
  refine ⟨fun q hq => ?_, fun k hk => ?_, h.2.2⟩
  · rw [e (2132 + q) (by omega) (by omega), e (2162 + q) (by omega) (by omega)]; exact h.1 q hq
  · rw [e (2192 + k) (by omega) (by omega), e (2432 + k) (by omega) (by omega)]; exact h.2.1 k hk
theorem R5.cg {nv : Nat} {L13 N N' : Nat → Int64} (h : R5 nv L13 N) (hn : nv ≤ 10) (e : ∀ i, 2672 ≤ i → i < 2682 → N' i = N i) : R5 nv L13 N' := fun v hv => by
  rw [e (2672 + v) (by omega) (by omega)]; exact h v hv
theorem R6.cg {nt : Nat} {L14 L15 L16 L17 N N' : Nat → Int64} (h : R6 nt L14 L15 L16 L17 N) (hn : nt ≤ 40) (e : ∀ i, 2682 ≤ i → i < 3842 → N' i = N i) : R6 nt L14 L15 L16 L17 N' := fun t ht => by
  obtain ⟨vr, qq, wh, len, h1, h2, h3, h4, h5, h6, h7, h8, h9, h10, h11, h12⟩ := h t ht
  refine ⟨vr, qq, wh, len, h1, h2, h3, h4, ?_, ?_, ?_, ?_, h9, ?_, h11, fun k hk => ?_⟩
  · rw [e _ (by omega) (by omega)]; exact h5
  · rw [e _ (by omega) (by omega)]; exact h6
  · rw [e _ (by omega) (by omega)]; exact h7
  · rw [e _ (by omega) (by omega)]; exact h8
  · rw [e _ (by omega) (by omega)]; exact h10
  · rw [e _ (by omega) (by omega)]; exact h12 k hk
theorem RR.cg {c : Nat} {A : AS} {L : LL} {N N' : Nat → Int64} (h : RR c A L N) (e : ∀ i, i < 3842 → N' i = N i) : RR c A L N' := by
  obtain ⟨h0, h1, h2, h3, h4, h5, h6, h7⟩ := h
  exact ⟨h0.cg fun i hi => e i (by omega), h1.cg h0.1.2.2.2 fun i _ hi => e i (by omega), h2.cg fun i _ hi => e i (by omega), h3.cg fun i _ hi => e i (by omega), h4.cg fun i _ hi => e i (by omega), h5.cg h0.2.2.2.1.2.2 fun i _ hi => e i (by omega), h6.cg h0.2.2.2.2.1.2.2 fun i _ hi => e i (by omega), h7⟩
theorem RR.up {c : Nat} {A : AS} {L : LL} {N : Nat → Int64} (h : RR c A L N) (hc : c + 1 ≤ 1000) : RR (c + 1) A L N := by
  obtain ⟨h0, hr⟩ := h
  exact ⟨⟨h0.1, h0.2.1, h0.2.2.1, h0.2.2.2.1, h0.2.2.2.2.1, h0.2.2.2.2.2.1, h0.2.2.2.2.2.2.1, by have := h0.2.2.2.2.2.2.2.1; omega, hc⟩, hr⟩
/-- how many sheets -/
def nsL (L : LL) : Nat := (L 0 0).toInt.toNat
theorem RR.ns {c : Nat} {A : AS} {L : LL} {N : Nat → Int64} (h : RR c A L N) : nsL L = aN A 0 := by
  have := h.1.1.2.2.2
  unfold nsL; rw [h.1.1.1, lN_toInt (by omega)]; rfl
/-! the acts that can be undone -/
def hs (c : Nat) (acts : Nat → List Chg) (kept : Nat → Int64) : Nat → Nat → Nat → LL → Prop
  | 0, _, _, _ => True
  | n + 1, i, j, L => (∃ A, RR c A (unL (acts ((i + 49) % 50)) L) (fun k => kept (3842 * ((j + 49) % 50) + k)) ∧ nsL L ≤ aN A 0 + 1) ∧ hs c acts kept n ((i + 49) % 50) ((j + 49) % 50) (unL (acts ((i + 49) % 50)) L)
theorem hs_up {c : Nat} {acts : Nat → List Chg} {kept : Nat → Int64} (hc : c + 1 ≤ 1000) : ∀ {n i j : Nat} {L : LL}, hs c acts kept n i j L → hs (c + 1) acts kept n i j L
  | 0, _, _, _, _ => trivial
  | _ + 1, _, _, _, h => by
    obtain ⟨⟨A, hA⟩, h2⟩ := h
    exact ⟨⟨A, hA.1.up hc, hA.2⟩, hs_up hc h2⟩
theorem hs_cg {c : Nat} {acts acts' : Nat → List Chg} {kept kept' : Nat → Int64} {i0 j0 : Nat} (hi0 : i0 < 50) (hj0 : j0 < 50) (ha : ∀ i, i < 50 → i ≠ i0 → acts' i = acts i) (hk : ∀ j k, j < 50 → k < 3842 → j ≠ j0 → kept' (3842 * j + k) = kept (3842 * j + k)) : ∀ (n d : Nat) {i j : Nat} {L : LL}, i = (i0 + 50 - d) % 50 → j = (j0 + 50 - d) % 50 → d + n ≤ 49 → hs c acts kept n i j L → hs c acts' kept' n i j L
  | 0, _, _, _, _, _, _, _, _ => trivial
  | n + 1, d, i, j, L, hi, hj, hd, h => by
    obtain ⟨⟨A, hA⟩, h2⟩ := h
    have e1 : (i + 49) % 50 = (i0 + 50 - (d + 1)) % 50 := by omega
    have e2 : (j + 49) % 50 = (j0 + 50 - (d + 1)) % 50 := by omega
    have ea : acts' ((i + 49) % 50) = acts ((i + 49) % 50) := ha _ (Nat.mod_lt _ (by decide)) (by omega)
    refine ⟨⟨A, ?_, hA.2⟩, ?_⟩
    · rw [ea]
      exact hA.1.cg fun k hk2 => hk _ _ (Nat.mod_lt _ (by decide)) hk2 (by omega)
    · rw [ea]
      exact hs_cg hi0 hj0 ha hk n (d + 1) e1 e2 (by omega) h2
/-- the rings: n acts kept; the class's next place i; the reference's place j behind its last -/
def HI (c : Nat) (σ : SC) (τ : SM) (L : LL) : Prop := ∃ n i f, n ≤ 50 ∧ i < 50 ∧ f < 50 ∧ xn σ 0 = nI n ∧ xn σ 1 = nI i ∧ yn τ 1 = nI n ∧ yn τ 2 = nI f ∧ hs c (xa σ) (yL τ 2) n i ((f + n) % 50) L
/-- all that ties the class's state and the reference's -/
def RL (c : Nat) (σ : SC) (τ : SM) : Prop := ∃ A, RR c A (xL σ) (yL τ 0) ∧ xo σ = [] ∧ BK σ (pgs (aP A) (aF A 3)) ∧ (yf τ = true → PR τ (pgs (aP A) (aF A 3))) ∧ xn σ 3 = yn τ 3 ∧ HI c σ τ (xL σ)
theorem RL.up {c : Nat} {σ : SC} {τ : SM} (h : RL c σ τ) (hc : c + 1 ≤ 1000) : RL (c + 1) σ τ := by
  obtain ⟨A, h1, h2, h3, h4, h5, n, i, f, g1, g2, g3, g4, g5, g6, g7, g8⟩ := h
  exact ⟨A, h1.up hc, h2, h3, h4, h5, n, i, f, g1, g2, g3, g4, g5, g6, g7, hs_up hc g8⟩
theorem keep_L (σ : SC) : xL (m_Journal_keep σ) = xL σ ∧ xI (m_Journal_keep σ) = xI σ ∧ xo (m_Journal_keep σ) = [] := by
  unfold m_Journal_keep jP
  split
  · exact ⟨rfl, rfl, rfl⟩
  · split <;> exact ⟨rfl, rfl, rfl⟩
theorem keep_n {σ : SC} {n i : Nat} (hn : n ≤ 50) (hi : i < 50) (h0 : xn σ 0 = nI n) (h1 : xn σ 1 = nI i) : xn (m_Journal_keep σ) 0 = nI (min (n + 1) 50) ∧ xn (m_Journal_keep σ) 1 = nI ((i + 1) % 50) ∧ (∀ k, 2 ≤ k → xn (m_Journal_keep σ) k = xn σ k) ∧ xa (m_Journal_keep σ) = va_up (xa σ) i (xo σ) := by
  have ej : jP σ (xn σ 1) (xo σ) = za σ i (xo σ) := by
    unfold jP; rw [h1, if_neg (nI_pos (by omega)), if_neg (nI_ge hi (by decide)), nI_clamp (by omega)]
  unfold m_Journal_keep
  rw [ej, h1, h0, nI_1, nI_1, fifty _ (by omega)]
  refine ⟨?_, ?_, fun k hk => ?_, rfl⟩
  · rw [xn_zn, if_pos rfl]
    by_cases c : n = 50
    · subst c; rfl
    · rw [if_neg (show ¬ (50 : Int32) < nI (n + 1) from nI_nlt (b := n + 1) (a := 50) (by omega) (by decide))]
      rw [show min (n + 1) 50 = n + 1 by omega]
  · rw [xn_zn, if_neg (by decide), xn_zn, if_pos rfl]
  · rw [xn_zn, if_neg (by omega), xn_zn, if_neg (by omega)]; rfl
/-- an act is kept on both sides -/
theorem act_done {c : Nat} (hc : c + 1 ≤ 1000) {σ σ1 : SC} {τ τ1 : SM} {A : AS} (hA : RR c A (xL σ) (yL τ 0)) (hH : HI c σ τ (xL σ)) (hU : U σ1 = xL σ) (hxn : ∀ k, k < 2 → xn σ1 k = xn σ k) (hxa : xa σ1 = xa σ)
    (hb : ∀ k, k < 3842 → yL τ1 1 k = yL τ 0 k) (hk : yL τ1 2 = yL τ 2) (hyn : ∀ k, 1 ≤ k → k < 3 → yn τ1 k = yn τ k) (hns : nsL (xL σ1) ≤ aN A 0 + 1) :
    HI (c + 1) (m_Journal_keep σ1) (m_Mo_done τ1) (xL σ1) ∧ k_Mo_done τ1 ∧ yL (m_Mo_done τ1) 0 = yL τ1 0 ∧ yn (m_Mo_done τ1) 0 = yn τ1 0 ∧ yn (m_Mo_done τ1) 3 = yn τ1 3 ∧ yf (m_Mo_done τ1) = false := by
  obtain ⟨n, i, f, g1, g2, g3, g4, g5, g6, g7, g8⟩ := hH
  obtain ⟨n', f', ⟨e1, e2, e3⟩, e4, e5⟩ := done_eq (τ := τ1) g3 g1 (by rw [hyn 1 (by decide) (by decide), g6]) (by rw [hyn 2 (by decide) (by decide), g7])
  obtain ⟨k1, k2, k3, k4⟩ := keep_n (σ := σ1) g1 g2 (by rw [hxn 0 (by decide), g4]) (by rw [hxn 1 (by decide), g5])
  have em : (f + n) % 50 < 50 := Nat.mod_lt _ (by decide)
  rw [e4]
  refine ⟨⟨n', (i + 1) % 50, f', by omega, Nat.mod_lt _ (by decide), e2, by rw [k1, e1], k2, ?_, ?_, ?_⟩, e5, ?_, rfl, rfl, rfl⟩
  · rfl
  · rfl
  · rw [e3, k4, hxa]
    have hL2 : yL (wf (wn (wn (wR τ1 2 (bkN ((f + n) % 50) (yL τ1 1) (yL τ1 2))) 2 (nI f')) 1 (nI n')) false) 2 = bkN ((f + n) % 50) (yL τ1 1) (yL τ 2) := by
      rw [yL_wf, yL_wn, yL_wn, yL_wR, hk]
    rw [hL2]
    obtain ⟨m, rfl⟩ : ∃ m, n' = m + 1 := ⟨n' - 1, by omega⟩
    have x1 : ((i + 1) % 50 + 49) % 50 = i := by omega
    have x2 : ((f + n + 1) % 50 + 49) % 50 = (f + n) % 50 := by omega
    have x3 : unL (va_up (xa σ) i (xo σ1) i) (xL σ1) = xL σ := by rw [va_up_self]; exact hU
    refine ⟨⟨A, ?_, hns⟩, ?_⟩
    · rw [x1, x2, x3]
      exact (hA.up hc).cg fun k hk2 => by rw [bkN_in hk2, hb k hk2]
    · rw [x1, x2, x3]
      refine hs_cg (i0 := i) (j0 := (f + n) % 50) g2 em (fun a _ ha => va_up_ne _ _ ha) (fun a b ha hb2 hab => bkN_out hb2 hab) m 0 (by omega) (by omega) (by omega) ?_
      have hm : m ≤ n := by omega
      have cut : ∀ (n m i j : Nat) (L : LL), m ≤ n → hs c (xa σ) (yL τ 2) n i j L → hs c (xa σ) (yL τ 2) m i j L := by
        intro n
        induction n with
        | zero => intro m i j L hm h; have : m = 0 := by omega
                  subst this; exact h
        | succ n ih =>
          intro m i j L hm h
          cases m with
          | zero => trivial
          | succ m => exact ⟨h.1, ih m _ _ _ (by omega) h.2⟩
      exact hs_up hc (cut n m i ((f + n) % 50) (xL σ) hm g8)
  · rw [yL_wf, yL_wn, yL_wn, yL_wRn _ _ (by decide)]
