theorem rem_l {p : Nat} (hp : p < 60) : ∀ (m n : Nat) (τ : SM), n + m = 32 → ∃ τ', lp_Mo_remove_45 (m + 1) τ (nI p) (nI n) = (true, m_Mo_done τ') ∧ (k_Mo_done τ' → kl_Mo_remove_45 (m + 1) τ (nI p) (nI n)) ∧ (∀ τ0, BG τ0 τ → BG τ0 τ') ∧ (∀ i, yL τ' 0 i = if 212 + 32 * p + n ≤ i ∧ i < 212 + 32 * p + 32 then 0 else yL τ 0 i)
  | 0, n, τ, h => by
    unfold lp_Mo_remove_45 kl_Mo_remove_45
    have c := show (32 : Int32) ≤ nI n from nI_le (a := 32) (by omega) (by omega)
    rw [if_pos c, if_pos c]
    exact ⟨τ, rfl, fun z => ⟨z, trivial⟩, fun _ hb => hb, fun i => by rw [if_neg (by omega)]⟩
  | m + 1, n, τ, h => by
    unfold lp_Mo_remove_45 kl_Mo_remove_45
    have c := show ¬ (32 : Int32) ≤ nI n from nI_ge (b := 32) (by omega) (by decide)
    rw [if_neg c, if_neg c, joint_cl hp (by omega), nI_1]
    obtain ⟨τ', h1, h2, h3, h4⟩ := rem_l hp m (n + 1) (wL τ 0 (212 + 32 * p + n) 0) (by omega)
    refine ⟨τ', h1, fun z => ⟨joint_in hp (by omega), h2 z⟩, fun τ0 hb => h3 τ0 (hb.l _ _), fun i => ?_⟩
    rw [h4 i, yL_wL]
    by_cases e2 : i = 212 + 32 * p + n
    · subst e2; rw [if_neg (by omega), if_pos ⟨rfl, rfl⟩, if_pos (by omega)]
    · rw [if_neg (show ¬ (0 = 0 ∧ i = 212 + 32 * p + n) from fun z => e2 z.2)]
      by_cases z : 212 + 32 * p + n ≤ i ∧ i < 212 + 32 * p + 32
      · rw [if_pos z, if_pos (by omega)]
      · rw [if_neg z, if_neg (by omega)]
/-- the pages' number when a placement goes -/
theorem del_len {ns np key : Nat} {al pa od cd rk : Nat → Nat} {pl : Nat → List Nat} {L2 L3 L4 N : Nat → Int64} (hR : R2 ns np key al pa od cd rk pl L2 L3 L4 N) {al' : Nat → Nat} {L2' L3' L4' N' : Nat → Int64} {p : Nat} (hR' : R2 ns np key al' pa od cd rk (fun s => (pl s).filter (fun q => decide (q ≠ p))) L2' L3' L4' N') (h : (pgs pl cd).length ≤ 300) : (pgs (fun s => (pl s).filter (fun q => decide (q ≠ p))) cd).length ≤ 300 := by
  rw [pgs_len (rk := rk) (fun s hs q hq => ⟨(pl_al hR hs hq).2.2.2.1, (pl_al hR hs hq).2.2.2.2.1⟩) hR.2.2.2.1] at h
  rw [pgs_len (rk := rk) (fun s hs q hq => ⟨(pl_al hR' hs hq).2.2.2.1, (pl_al hR' hs hq).2.2.2.2.1⟩) hR.2.2.2.1]
  have := sz_mono (pl := pl) (pl' := fun s => (pl s).filter (fun q => decide (q ≠ p))) (cd := cd) (c := fun q => decide (q ≠ p)) (fun s => rfl) 24 0
  omega
theorem op_remove {c : Nat} (hc : c + 1 ≤ 1000) {σ : SC} {τ : SM} (h : RL c σ τ) (x : Int32) : okX (c + 1) σ (m_ST_remove σ x) (k_Mo_remove τ x) (m_Mo_remove τ x) := by
  have hup := h.up hc
  obtain ⟨A, hA, ho, hB, hP, hl, hH⟩ := h
  unfold m_ST_remove m_Mo_remove k_Mo_remove m_ST_needPlacement
  rcases pc_cases hA x with ⟨a1, a2, a3⟩ | ⟨p, hp, ha, rfl, a1, a2, a3⟩
  · rw [a1, a2, if_pos bf, if_pos bf, if_pos bf]
    exact okX_no ⟨a3, trivial⟩ rfl (hup.th 1)
  · rw [a1, a2, if_neg bt, if_neg bt, if_neg bt]
    obtain ⟨g1, g2, g3⟩ := BG_begin τ
    generalize m_Mo_begin (wn τ 0 0) = τb at g1 g2 g3 ⊢
    have hR := hA.2.2.1
    have e152 : ((152 : Int32) + nI p).toNatClampNeg = 152 + p := clA 152 (by omega)
    rw [e152, f33]
    obtain ⟨τ', m1, m2, m3, m4⟩ := rem_l hp 32 0 (wL τb 0 (152 + p) (-1)) (by omega)
    rw [nI_0] at m1 m2
    rw [m1]
    obtain ⟨xx, rr, hx⟩ := pl_split hR hp ha
    obtain ⟨p1, p2⟩ := takeAway_C hR hp ha hx
    generalize m_Sheets_takeAway σ (nI p) = Y at p1 p2 ⊢
    have bg := m3 τ (g1.l _ _)
    have t7 : ∀ i, i ≠ 152 + p → ¬ (212 + 32 * p ≤ i ∧ i < 212 + 32 * p + 32) → yL τ' 0 i = yL τ 0 i := fun i w1 w2 => by
      rw [m4, if_neg (by omega), yL_wL, if_neg (by omega), g2]
    have t1 : yL τ' 0 (152 + p) = -1 := by rw [m4, if_neg (by omega), yL_wL, if_pos ⟨rfl, rfl⟩]
    have hnp := (hR.1 p hp ha).1
    have hQ : RQ (c + 1) (aN A, va_up (aF A) 0 (va_up (aF A 0) p 0), (fun s => (aP A s).filter (fun q => decide (q ≠ p))), aG A) (xL Y) (yL τ' 0) := by
      rw [p2]
      obtain ⟨h0, h1, h2, h3, h4, h5, h6, h7⟩ := hA.up hc
      generalize yL τ' 0 = N' at t1 t7 ⊢
      have hr : ∀ j, j ≠ 3 → j ≠ 4 → sL (sL (sL (xL σ) 4 (lastc (60 + aF A 1 p) xx) (xL σ 4 p)) 4 p (-1)) 3 p (-1) j = xL σ j := fun j w1 w2 => by rw [sL_row w1, sL_row w2, sL_row w2]
      have ra : sL (sL (sL (xL σ) 4 (lastc (60 + aF A 1 p) xx) (xL σ 4 p)) 4 p (-1)) 3 p (-1) 3 p = -1 := sL_same _ _ _ _
      have rb : ∀ j, j ≠ p → sL (sL (sL (xL σ) 4 (lastc (60 + aF A 1 p) xx) (xL σ 4 p)) 4 p (-1)) 3 p (-1) 3 j = xL σ 3 j := fun j hj => by rw [sL_cell hj, sL_row (by decide), sL_row (by decide)]
      have rc : sL (sL (sL (xL σ) 4 (lastc (60 + aF A 1 p) xx) (xL σ 4 p)) 4 p (-1)) 3 p (-1) 4 = vp_updL (vp_updL (xL σ 4) (lastc (60 + aF A 1 p) xx) (xL σ 4 p)) p (-1) := by
        rw [sL_row (by decide)]
        funext j; rw [sL_eq, sL_eq]; simp only [true_and, vp_updL]
      generalize sL (sL (sL (xL σ) 4 (lastc (60 + aF A 1 p) xx) (xL σ 4 p)) 4 p (-1)) 3 p (-1) = L' at hr ra rb rc ⊢
      have hN : ∀ i, i < 32 ∨ 2132 ≤ i → N' i = yL τ 0 i := fun i w => t7 i (by omega) (by omega)
      have q2 := R2_del (L3' := L' 3) (L4' := L' 4) (N' := N') h2 hp ha hx ra rb rc t1 (fun i w1 w2 w3 => t7 i w3 (by omega))
      rw [← hr 2 (by decide) (by decide)] at q2
      have q3 : R3 (aN A 1) (va_up (aF A 0) p 0) (L' 5) N' := by
        intro p' n hp' hn
        rw [hr 5 (by decide) (by decide)]
        by_cases e : p' = p
        · subst e
          refine ⟨fun w => absurd (va_up_self (aF A 0) p' 0) w, fun w => by omega⟩
        · rw [va_up_ne _ _ e, t7 _ (by omega) (by omega)]
          exact h3 p' n hp' hn
      exact ⟨(by unfold R0; rw [hr 0 (by decide) (by decide), hr 6 (by decide) (by decide), hr 12 (by decide) (by decide), hr 18 (by decide) (by decide)]; exact h0.cg fun i _ => hN i (by omega)), (by show R1 (aN A 0) (L' 1) N'; rw [hr 1 (by decide) (by decide)]; exact h1.cg h0.1.2.2.2 fun i _ _ => hN i (by omega)), q2, q3, (by show R4 (aN A 0) (aN A 2) (aN A 6) _ _ _ _ _ (L' 7) (L' 8) (L' 9) (L' 10) (L' 11) N'; rw [hr 7 (by decide) (by decide), hr 8 (by decide) (by decide), hr 9 (by decide) (by decide), hr 10 (by decide) (by decide), hr 11 (by decide) (by decide)]; exact h4.cg fun i _ _ => hN i (by omega)), (by show R5 (aN A 3) (L' 13) N'; rw [hr 13 (by decide) (by decide)]; exact h5.cg h0.2.2.2.1.2.2 fun i _ _ => hN i (by omega)), (by show R6 (aN A 4) (L' 14) (L' 15) (L' 16) (L' 17) N'; rw [hr 14 (by decide) (by decide), hr 15 (by decide) (by decide), hr 16 (by decide) (by decide), hr 17 (by decide) (by decide)]; exact h6.cg h0.2.2.2.2.1.2.2 fun i _ _ => hN i (by omega))⟩
    have cl : (pgs (fun s => (aP A s).filter (fun q => decide (q ≠ p))) (aF A 3)).length ≤ 300 := del_len hR hQ.2.2.1 hA.2.2.2.2.2.2.2
    obtain ⟨y1, z2, z3⟩ := settle_y hQ cl
    obtain ⟨k1, k2, k3, k4⟩ := fin_y (τ3 := τ') hc hA ho hH p1 hQ cl bg.1 bg.2.1 (fun k h1 h2 => bg.2.2.1 k h1 (by omega)) bg.2.2.2 rfl
    have e3 : yn τ' 3 = xn σ 3 := (bg.2.2.1 3 (by decide) (by decide)).trans hl.symm
    obtain ⟨nn, ii, ff, gg1, gg2, gg3, gg4, gg5, -⟩ := id hH
    obtain ⟨-, -, qq3, -⟩ := keep_n (σ := m_Book_lay Y) gg1 gg2 (by rw [z3.2.2.2 0 (by decide), p1.2.2.1, gg4]) (by rw [z3.2.2.2 1 (by decide), p1.2.2.1, gg5])
    have e4 : zn (m_Journal_keep (m_Book_lay Y)) 3 (yn τ' 3) = m_Journal_keep (m_Book_lay Y) := zn_id (by rw [qq3 3 (by decide), z3.2.2.2 3 (by decide), p1.2.2.1, e3])
    rw [e4] at k2 k4
    show okX (c + 1) σ (some ((m_ST_settle Y).1, (m_ST_settle Y).2)) _ _
    rw [y1]
    generalize m_Journal_keep (m_Book_lay Y) = K at k2 k4 ⊢
    exact okX_mk ⟨a3, g3, inA 152 (by omega), m2 k1⟩ k3 rfl k2 k4
/-! move -/
def lm (ls : Nat → Bool) : Nat → Nat → Int32 → Int32
  | 0, _, v => v
  | m + 1, n, v => lm ls m (n + 1) (if ls n = true then v ||| (1 <<< (nI n &&& 31)) else v)
def lsj (NM : Int32) (J : Nat → Nat) (n : Nat) : Bool := decide (J n ≠ 0) && !tb NM (J n - 1)
theorem bring_l {p s : Nat} (hp : p < 60) (hs : s < 24) {NM : Int32} {J : Nat → Nat} (hJ : ∀ n, n < 32 → J n ≤ 32) : ∀ (m n : Nat) (σ : SC) (v : Int32), n + m = 32 → (xL σ 1 s).toInt32 = NM → (∀ i, n ≤ i → i < 32 → xL σ 5 (32 * p + i) = lN (J i) - 1) →
    (lp_Sheets_bringTo_16 (m + 1) σ (nI p) (nI s) v (nI n)).1 = lm (lsj NM J) m n v ∧ sk σ (lp_Sheets_bringTo_16 (m + 1) σ (nI p) (nI s) v (nI n)).2 ∧ (∀ k, k ≠ 5 → xL (lp_Sheets_bringTo_16 (m + 1) σ (nI p) (nI s) v (nI n)).2 k = xL σ k) ∧
    (∀ i, n ≤ i → i < 32 → xL (lp_Sheets_bringTo_16 (m + 1) σ (nI p) (nI s) v (nI n)).2 5 (32 * p + i) = lN (if lsj NM J i = true then 0 else J i) - 1) ∧ (∀ j, ¬ (32 * p + n ≤ j ∧ j < 32 * p + 32) → xL (lp_Sheets_bringTo_16 (m + 1) σ (nI p) (nI s) v (nI n)).2 5 j = xL σ 5 j) := by
  intro m
  induction m with
  | zero =>
    intro n σ v h h1 h2
    unfold lp_Sheets_bringTo_16
    have c := show (32 : Int32) ≤ nI n from nI_le (a := 32) (by omega) (by omega)
    rw [if_pos c]
    exact ⟨rfl, sk_rfl σ, fun _ _ => rfl, fun i w1 w2 => by omega, fun _ _ => rfl⟩
  | succ m ih =>
    intro n σ v h h1 h2
    have hJn := hJ n (by omega)
    unfold lp_Sheets_bringTo_16
    have c := show ¬ (32 : Int32) ≤ nI n from nI_ge (b := 32) (by omega) (by decide)
    have ej : m_Sheets_jointOf σ (nI p) (nI n) = nI (J n) - 1 := by
      unfold m_Sheets_jointOf
      rw [joint_ix, at_in (k := 5) (show 32 * p + n < 1920 by omega), h2 n (Nat.le_refl _) (by omega), lN_p32]
    rw [if_neg c, ej, nI_1]
    have go : lsj NM J n = false → ∀ (v' : Int32), v' = v → (lp_Sheets_bringTo_16 (m + 1) σ (nI p) (nI s) v' (nI (n + 1))).1 = lm (lsj NM J) (m + 1) n v ∧ sk σ (lp_Sheets_bringTo_16 (m + 1) σ (nI p) (nI s) v' (nI (n + 1))).2 ∧ (∀ k, k ≠ 5 → xL (lp_Sheets_bringTo_16 (m + 1) σ (nI p) (nI s) v' (nI (n + 1))).2 k = xL σ k) ∧
        (∀ i, n ≤ i → i < 32 → xL (lp_Sheets_bringTo_16 (m + 1) σ (nI p) (nI s) v' (nI (n + 1))).2 5 (32 * p + i) = lN (if lsj NM J i = true then 0 else J i) - 1) ∧ (∀ j, ¬ (32 * p + n ≤ j ∧ j < 32 * p + 32) → xL (lp_Sheets_bringTo_16 (m + 1) σ (nI p) (nI s) v' (nI (n + 1))).2 5 j = xL σ 5 j) := by
      intro hn v' ev
      subst ev
      obtain ⟨i1, i2, i3, i4, i5⟩ := ih (n + 1) σ v' (by omega) h1 (fun i w1 w2 => h2 i (by omega) w2)
      refine ⟨?_, i2, i3, fun i w1 w2 => ?_, fun j w => i5 j (by omega)⟩
      · rw [i1]
        show _ = lm (lsj NM J) m (n + 1) (if lsj NM J n = true then _ else _)
        rw [hn]; rfl
      · by_cases e : i = n
        · subst e
          rw [i5 _ (by omega), hn, h2 i (Nat.le_refl _) w2]; rfl
        · exact i4 i (by omega) w2
    by_cases c0 : J n = 0
    · have c1 := (sub1_m1 (n := J n) (by omega)).mpr c0
      rw [if_pos c1]
      exact go (by unfold lsj; simp [c0]) v rfl
    · have c1 : ¬ nI (J n) - 1 = -1 := fun z => c0 ((sub1_m1 (by omega)).mp z)
      have eJ : nI (J n) - 1 = nI (J n - 1) := by
        obtain ⟨k, hk⟩ : ∃ k, J n = k + 1 := ⟨J n - 1, by omega⟩
        rw [hk]; exact nI_pred k
      rw [if_neg c1, eJ, tells_eq hs (by omega), h1]
      cases ht : tb NM (J n - 1) with
      | true =>
        rw [if_neg bt]
        exact go (by unfold lsj; simp [ht]) v rfl
      | false =>
        rw [if_pos bf]
        have hls : lsj NM J n = true := by unfold lsj; simp [ht, c0]
        have eS : m_Sheets_setJoint σ (nI p) (nI n) (-1) = m_Row_set σ 5 (nI (32 * p + n)) (-1) := by
          unfold m_Sheets_setJoint; rw [joint_ix, m1_64]
        rw [eS]
        have eL : xL (m_Row_set σ 5 (nI (32 * p + n)) (-1)) = sL (xL σ) 5 (32 * p + n) (-1) := rs_xL (show 32 * p + n < 1920 by omega)
        have hk := rs_sk σ 5 (nI (32 * p + n)) (-1)
        generalize m_Row_set σ 5 (nI (32 * p + n)) (-1) = Y at eL hk ⊢
        obtain ⟨i1, i2, i3, i4, i5⟩ := ih (n + 1) Y (v ||| (1 <<< (nI n &&& 31))) (by omega) (by rw [eL, sL_row (by decide)]; exact h1) (fun i w1 w2 => by rw [eL, sL_cell (by omega)]; exact h2 i (by omega) w2)
        refine ⟨?_, hk.tr i2, fun k hk5 => by rw [i3 k hk5, eL, sL_row hk5], fun i w1 w2 => ?_, fun j w => ?_⟩
        · rw [i1]
          show _ = lm (lsj NM J) m (n + 1) (if lsj NM J n = true then _ else _)
          rw [if_pos hls]
        · by_cases e : i = n
          · subst e
            rw [i5 _ (by omega), eL, sL_same, if_pos hls]; decide
          · exact i4 i (by omega) w2
        · rw [i5 j (by omega), eL, sL_cell (by omega)]
theorem move_l {p s : Nat} (hp : p < 60) (hs : s < 24) {NM : Int32} {J : Nat → Nat} (hJ : ∀ n, n < 32 → J n ≤ 32) : ∀ (m n : Nat) (τ : SM) (v : Int32), n + m = 32 → (yL τ 0 (8 + s)).toInt32 = NM → (∀ i, n ≤ i → i < 32 → yL τ 0 (212 + 32 * p + i) = lN (J i)) →
    ∃ τ', lp_Mo_move_100 (m + 1) τ (nI p) (nI s) v (nI n) = (if bi (m_Mo_hasRoom τ').1 = 0 then (false, m_Mo_giveBack (m_Mo_hasRoom τ').2) else (true, m_Mo_done (wn (m_Mo_hasRoom τ').2 3 (lm (lsj NM J) m n v)))) ∧
      ((k_Mo_hasRoom τ' ∧ if bi (m_Mo_hasRoom τ').1 = 0 then k_Mo_giveBack (m_Mo_hasRoom τ').2 ∧ True else k_Mo_done (wn (m_Mo_hasRoom τ').2 3 (lm (lsj NM J) m n v)) ∧ True) → kl_Mo_move_100 (m + 1) τ (nI p) (nI s) v (nI n)) ∧
      (∀ τ0, BG τ0 τ → BG τ0 τ') ∧ (∀ i, n ≤ i → i < 32 → yL τ' 0 (212 + 32 * p + i) = lN (if lsj NM J i = true then 0 else J i)) ∧ (∀ j, ¬ (212 + 32 * p + n ≤ j ∧ j < 212 + 32 * p + 32) → yL τ' 0 j = yL τ 0 j) := by
  intro m
  induction m with
  | zero =>
    intro n τ v h h1 h2
    unfold lp_Mo_move_100 kl_Mo_move_100
    have c := show (32 : Int32) ≤ nI n from nI_le (a := 32) (by omega) (by omega)
    rw [if_pos c, if_pos c]
    exact ⟨τ, rfl, fun z => z, fun _ hb => hb, fun i w1 w2 => by omega, fun _ _ => rfl⟩
  | succ m ih =>
    intro n τ v h h1 h2
    have hJn := hJ n (by omega)
    unfold lp_Mo_move_100 kl_Mo_move_100
    have c := show ¬ (32 : Int32) ≤ nI n from nI_ge (b := 32) (by omega) (by decide)
    rw [if_neg c, if_neg c, joint_cl hp (by omega), h2 n (Nat.le_refl _) (by omega), nI_1, nI_l (show s < 2 ^ 31 by omega), lN_i]
    have jin := joint_in hp (show n < 32 by omega)
    have fin : lsj NM J n = false → ∀ τ', (∀ i, n + 1 ≤ i → i < 32 → yL τ' 0 (212 + 32 * p + i) = lN (if lsj NM J i = true then 0 else J i)) → (∀ j, ¬ (212 + 32 * p + (n + 1) ≤ j ∧ j < 212 + 32 * p + 32) → yL τ' 0 j = yL τ 0 j) → (∀ i, n ≤ i → i < 32 → yL τ' 0 (212 + 32 * p + i) = lN (if lsj NM J i = true then 0 else J i)) ∧ (∀ j, ¬ (212 + 32 * p + n ≤ j ∧ j < 212 + 32 * p + 32) → yL τ' 0 j = yL τ 0 j) := by
      intro hn τ' w1 w2
      refine ⟨fun i u1 u2 => ?_, fun j u => w2 j (by omega)⟩
      by_cases e : i = n
      · subst e; rw [w2 _ (by omega), hn, h2 i (Nat.le_refl _) u2]; rfl
      · exact w1 i (by omega) u2
    have eF : lsj NM J n = false → lm (lsj NM J) (m + 1) n v = lm (lsj NM J) m (n + 1) v := fun hn => by
      show lm (lsj NM J) m (n + 1) (if lsj NM J n = true then _ else _) = _
      rw [hn]; rfl
    by_cases c0 : J n = 0
    · have c1 : lg_cmp (lN (J n)) 0 = 0 := cmp0.mpr (by rw [c0]; decide)
      rw [if_pos c1, if_pos c1]
      have hls : lsj NM J n = false := by unfold lsj; simp [c0]
      obtain ⟨τ', i1, i2, i3, i4, i5⟩ := ih (n + 1) τ v (by omega) h1 (fun i w1 w2 => h2 i (by omega) w2)
      obtain ⟨f1, f2⟩ := fin hls τ' i4 i5
      rw [eF hls]
      exact ⟨τ', i1, fun z => ⟨jin, i2 z⟩, i3, f1, f2⟩
    · have c1 : ¬ lg_cmp (lN (J n)) 0 = 0 := fun z => c0 ((lN_eq (b := 0) (by omega) (by decide)).mp (by rw [lN0]; exact cmp0.mp z))
      have eJ : nI (J n) - 1 = nI (J n - 1) := by
        obtain ⟨k, hk⟩ : ∃ k, J n = k + 1 := ⟨J n - 1, by omega⟩
        rw [hk]; exact nI_pred k
      obtain ⟨q1, q2⟩ := hasName_eq (τ := τ) (s := s) (n := J n - 1) hs (by omega)
      rw [if_neg c1, if_neg c1, eJ, q1, ← tbl_32 _ (show J n - 1 < 32 by omega), h1]
      cases ht : tb NM (J n - 1) with
      | true =>
        rw [if_neg bt, if_neg bt]
        have hls : lsj NM J n = false := by unfold lsj; simp [ht]
        obtain ⟨τ', i1, i2, i3, i4, i5⟩ := ih (n + 1) τ v (by omega) h1 (fun i w1 w2 => h2 i (by omega) w2)
        obtain ⟨f1, f2⟩ := fin hls τ' i4 i5
        rw [eF hls]
        exact ⟨τ', i1, fun z => ⟨jin, q2, i2 z⟩, i3, f1, f2⟩
      | false =>
        rw [if_pos bf, if_pos bf]
        have hls : lsj NM J n = true := by unfold lsj; simp [ht, c0]
        obtain ⟨τ', i1, i2, i3, i4, i5⟩ := ih (n + 1) (wL τ 0 (212 + 32 * p + n) 0) (v ||| (1 <<< (nI n &&& 31))) (by omega) (by rw [yL_wL, if_neg (by omega)]; exact h1) (fun i w1 w2 => by rw [yL_wL, if_neg (by omega)]; exact h2 i (by omega) w2)
        have eT : lm (lsj NM J) (m + 1) n v = lm (lsj NM J) m (n + 1) (v ||| (1 <<< (nI n &&& 31))) := by
          show lm (lsj NM J) m (n + 1) (if lsj NM J n = true then _ else _) = _
          rw [if_pos hls]
        rw [eT]
        refine ⟨τ', i1, fun z => ⟨jin, q2, jin, i2 z⟩, fun τ0 hb => i3 τ0 (hb.l _ _), fun i w1 w2 => ?_, fun j w => ?_⟩
        · by_cases e : i = n
          · subst e
            rw [i5 _ (by omega), yL_wL, if_pos ⟨rfl, rfl⟩, if_pos hls]; decide
          · exact i4 i (by omega) w2
        · rw [i5 j (by omega), yL_wL, if_neg (by omega)]
