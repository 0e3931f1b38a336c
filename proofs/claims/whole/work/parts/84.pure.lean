theorem RQ.of {c : Nat} {A : AS} {L : LL} {N : Nat → Int64} (h : RR c A L N) : RQ c A L N := ⟨h.1, h.2.1, h.2.2.1, h.2.2.2.1, h.2.2.2.2.1, h.2.2.2.2.2.1, h.2.2.2.2.2.2.1⟩
theorem joint64 {j : Nat} (h : j < 2 ^ 30) : (nI j - 1).toInt64 = lN j - 1 := by
  cases j with
  | zero => decide
  | succ j =>
    have e1 : nI (j + 1) - 1 = nI j := nI_pred j
    have e2 : lN (j + 1) - 1 = lN j := by rw [← lN_1, Int64.add_sub_cancel]
    rw [e1, e2, nI_l (by omega)]
theorem cpj_C {p q : Nat} (hp : p < 60) (hq : q < 60) (hpq : p ≠ q) {J : Nat → Nat} (hJ : ∀ n, n < 32 → J n ≤ 32) : ∀ (m n : Nat) (σ : SC), n + m = 32 → (∀ i, i < 32 → xL σ 5 (32 * p + i) = lN (J i) - 1) →
    sk σ (lp_Sheets_copyJoints_2 (m + 1) σ (nI p) (nI q) (nI n)) ∧ (∀ k, k ≠ 5 → xL (lp_Sheets_copyJoints_2 (m + 1) σ (nI p) (nI q) (nI n)) k = xL σ k) ∧ (∀ i, n ≤ i → i < 32 → xL (lp_Sheets_copyJoints_2 (m + 1) σ (nI p) (nI q) (nI n)) 5 (32 * q + i) = lN (J i) - 1) ∧ (∀ j, ¬ (32 * q + n ≤ j ∧ j < 32 * q + 32) → xL (lp_Sheets_copyJoints_2 (m + 1) σ (nI p) (nI q) (nI n)) 5 j = xL σ 5 j) := by
  intro m
  induction m with
  | zero =>
    intro n σ h hJs
    unfold lp_Sheets_copyJoints_2
    have c := show (32 : Int32) ≤ nI n from nI_le (a := 32) (by omega) (by omega)
    rw [if_pos c]
    exact ⟨sk_rfl σ, fun _ _ => rfl, fun i w1 w2 => by omega, fun _ _ => rfl⟩
  | succ m ih =>
    intro n σ h hJs
    have hJn := hJ n (by omega)
    unfold lp_Sheets_copyJoints_2
    have c := show ¬ (32 : Int32) ≤ nI n from nI_ge (b := 32) (by omega) (by decide)
    have ej : m_Sheets_jointOf σ (nI p) (nI n) = nI (J n) - 1 := by
      unfold m_Sheets_jointOf
      rw [joint_ix, at_in (k := 5) (show 32 * p + n < 1920 by omega), hJs n (by omega), lN_p32]
    have eS : m_Sheets_setJoint σ (nI q) (nI n) (nI (J n) - 1) = m_Row_set σ 5 (nI (32 * q + n)) (lN (J n) - 1) := by
      unfold m_Sheets_setJoint; rw [joint_ix, joint64 (by omega)]
    rw [if_neg c, ej, eS, nI_1]
    have eL : xL (m_Row_set σ 5 (nI (32 * q + n)) (lN (J n) - 1)) = sL (xL σ) 5 (32 * q + n) (lN (J n) - 1) := rs_xL (show 32 * q + n < 1920 by omega)
    have hk := rs_sk σ 5 (nI (32 * q + n)) (lN (J n) - 1)
    generalize m_Row_set σ 5 (nI (32 * q + n)) (lN (J n) - 1) = Y at eL hk ⊢
    obtain ⟨i1, i2, i3, i4⟩ := ih (n + 1) Y (by omega) (fun i hi => by rw [eL, sL_cell (by omega)]; exact hJs i hi)
    refine ⟨hk.tr i1, fun k hk5 => by rw [i2 k hk5, eL, sL_row hk5], fun i w1 w2 => ?_, fun j w => by rw [i4 j (by omega), eL, sL_cell (by omega)]⟩
    by_cases e : i = n
    · subst e; rw [i4 _ (by omega), eL, sL_same]
    · exact i3 i (by omega) w2
theorem cpj_M {p q : Nat} (hp : p < 60) (hq : q < 60) (hpq : p ≠ q) (K : SM → Int32 → Int32 → Int32 → Int32 × SM) (KP : SM → Int32 → Int32 → Int32 → Prop) (v1 v2 : Int32) : ∀ (m n : Nat) (τ : SM), n + m = 32 →
    ∃ τ', lp_Mo_copy_142 K (m + 1) τ v1 v2 (nI p) (nI q) (nI n) = K τ' v1 v2 (m_Mo_next τ' v1 (yL τ' 0 (152 + p))) ∧ (k_Mo_next τ' v1 (yL τ' 0 (152 + p)) → KP τ' v1 v2 (m_Mo_next τ' v1 (yL τ' 0 (152 + p))) → kl_Mo_copy_142 KP (m + 1) τ v1 v2 (nI p) (nI q) (nI n)) ∧ (∀ τ0, BG τ0 τ → BG τ0 τ') ∧ yI τ' = yI τ ∧
      (∀ i, n ≤ i → i < 32 → yL τ' 0 (212 + 32 * q + i) = yL τ 0 (212 + 32 * p + i)) ∧ (∀ j, ¬ (212 + 32 * q + n ≤ j ∧ j < 212 + 32 * q + 32) → yL τ' 0 j = yL τ 0 j) := by
  intro m
  induction m with
  | zero =>
    intro n τ h
    unfold lp_Mo_copy_142 kl_Mo_copy_142
    have c := show (32 : Int32) ≤ nI n from nI_le (a := 32) (by omega) (by omega)
    have e152 : ((152 : Int32) + nI p).toNatClampNeg = 152 + p := clA 152 (by omega)
    rw [if_pos c, if_pos c, e152]
    exact ⟨τ, rfl, fun w1 w2 => ⟨inA 152 (by omega), w1, w2⟩, fun _ hb => hb, rfl, fun i w1 w2 => by omega, fun _ _ => rfl⟩
  | succ m ih =>
    intro n τ h
    unfold lp_Mo_copy_142 kl_Mo_copy_142
    have c := show ¬ (32 : Int32) ≤ nI n from nI_ge (b := 32) (by omega) (by decide)
    rw [if_neg c, if_neg c, joint_cl hp (by omega), joint_cl hq (by omega), nI_1]
    obtain ⟨τ', i1, i2, i3, i4, i5, i6⟩ := ih (n + 1) (wL τ 0 (212 + 32 * q + n) (yL τ 0 (212 + 32 * p + n))) (by omega)
    refine ⟨τ', i1, fun w1 w2 => ⟨joint_in hp (by omega), joint_in hq (by omega), i2 w1 w2⟩, fun τ0 hb => i3 τ0 (hb.l _ _), i4, fun i w1 w2 => ?_, fun j w => by rw [i6 j (by omega), yL_wL, if_neg (by omega)]⟩
    by_cases e : i = n
    · subst e; rw [i6 _ (by omega), yL_wL, if_pos ⟨rfl, rfl⟩]
    · rw [i5 i (by omega) w2, yL_wL, if_neg (by omega)]
/-- what copying placements leaves of the abstract state -/
def CA (A A' : AS) (made np0 : Nat) : Prop := (∀ k, k ≠ 1 → k ≠ 6 → aN A' k = aN A k) ∧ (∀ s, s ≠ made → aP A' s = aP A s) ∧ (∀ k q, q < np0 → aF A' k q = aF A k q) ∧ (∀ k, 4 ≤ k → aF A' k = aF A k) ∧ aG A' = aG A
theorem CA_rfl (A : AS) (made np0 : Nat) : CA A A made np0 := ⟨fun _ _ _ => rfl, fun _ _ => rfl, fun _ _ _ => rfl, fun _ _ => rfl, rfl⟩
theorem CA.tr {A B C : AS} {made n n' : Nat} (h : CA A B made n) (g : CA B C made n') (hn : n ≤ n') : CA A C made n :=
  ⟨fun k h1 h2 => (g.1 k h1 h2).trans (h.1 k h1 h2), fun s hs => (g.2.1 s hs).trans (h.2.1 s hs), fun k q hq => (g.2.2.1 k q (by omega)).trans (h.2.2.1 k q hq), fun k hk => (g.2.2.2.1 k hk).trans (h.2.2.2.1 k hk), g.2.2.2.2.trans h.2.2.2.2⟩
theorem cpl_l {c : Nat} {sheet made : Nat} (hsm : sheet ≠ made) : ∀ (rest pre : List Nat) (σ : SC) (τ : SM) (A : AS) (nC nM u : Nat), RQ c A (xL σ) (yL τ 0) → sheet < aN A 0 → made < aN A 0 → aF A 4 sheet = aF A 4 made → aP A sheet = pre ++ rest → aN A 1 + rest.length ≤ 60 → aN A 6 + rest.length ≤ 200 * c → rest.length < nC → rest.length < nM → u + rest.length ≤ 60 →
    ∃ σ' τ' A', lp_Sheets_addSheetLike_31 nC σ (nI sheet) (nI made) (hdI rest) (nI u) = (nI made, σ') ∧ sk σ σ' ∧ lp_Mo_copy_117 nM τ (nI sheet) (nI made) (hdI rest) = lp_Mo_copy_210 (30 + 1) τ' (nI sheet) (nI made) (-1) 0 ∧ (kl_Mo_copy_210 (30 + 1) τ' (nI sheet) (nI made) (-1) 0 → kl_Mo_copy_117 nM τ (nI sheet) (nI made) (hdI rest)) ∧
      (∀ τ0, BG τ0 τ → BG τ0 τ') ∧ RQ c A' (xL σ') (yL τ' 0) ∧ CA A A' made (aN A 1) ∧ aN A' 6 = aN A 6 + rest.length ∧ ct_Sheets_addSheetLike_31 nC σ (nI sheet) (nI made) (hdI rest) (nI u) = rest.length := by
  intro rest
  induction rest with
  | nil =>
    intro pre σ τ A nC nM u hQ hs hm hrk hpl hn1 hn6 hC hM hu
    obtain ⟨nC, rfl⟩ : ∃ j, nC = j + 1 := ⟨nC - 1, by omega⟩
    obtain ⟨nM, rfl⟩ : ∃ j, nM = j + 1 := ⟨nM - 1, by omega⟩
    unfold lp_Sheets_addSheetLike_31 lp_Mo_copy_117 kl_Mo_copy_117 ct_Sheets_addSheetLike_31
    have e31 : (30 : Int32).toNatClampNeg + 1 = 30 + 1 := by decide
    have eh : hdI [] = -1 := rfl
    refine ⟨σ, τ, A, ?_, sk_rfl σ, ?_, ?_, fun _ hb => hb, hQ, CA_rfl A made _, rfl, ?_⟩
    · by_cases z : (60 : Int32) ≤ nI u
      · rw [if_pos z]
      · rw [if_neg z, if_pos (by rfl)]
    · rw [if_pos (by rfl), e31]; rfl
    · rw [if_pos (by rfl), e31]; exact fun w => w
    · by_cases z : (60 : Int32) ≤ nI u
      · rw [if_pos z]; rfl
      · rw [if_neg z, if_pos (by rfl)]; rfl
  | cons p rest ih =>
    intro pre σ τ A nC nM u hQ hs hm hrk hpl hn1 hn6 hC hM hu
    rw [List.length_cons] at hn1 hn6 hC hM hu
    obtain ⟨nC, rfl⟩ : ∃ j, nC = j + 1 := ⟨nC - 1, by omega⟩
    obtain ⟨nM, rfl⟩ : ∃ j, nM = j + 1 := ⟨nM - 1, by omega⟩
    obtain ⟨h0, h1, h2, h3, h4, h5, h6⟩ := hQ
    have b := h0.1.2.2.2
    have b1 := h0.2.1.2.2
    have hc1000 := h0.2.2.2.2.2.2.2.2
    have hpm : p ∈ aP A sheet := by rw [hpl]; simp
    obtain ⟨q1, q2, q3, q4, q5, q6, q7⟩ := pl_al h2 (show sheet < 24 by omega) hpm
    obtain ⟨g1, g2, g3, g4, g5, g6, -⟩ := alM h2 q1 q2
    have e92 : ((92 : Int32) + nI p).toNatClampNeg = 92 + p := clA 92 (by omega)
    have eh : hdI (p :: rest) = nI p := rfl
    have npm : ¬ nI p = -1 := nI_m1 (by omega)
    unfold lp_Sheets_addSheetLike_31 lp_Mo_copy_117 kl_Mo_copy_117 ct_Sheets_addSheetLike_31
    have nu := show ¬ (60 : Int32) ≤ nI u from nI_ge (b := 60) (by omega) (by decide)
    rw [eh, if_neg nu, if_neg nu, if_neg npm, if_neg npm, if_neg npm, if_neg npm, e92, g3, lN_i, f33, sheetOf_al h2 q2, nI_1 u]
    -- the new placement
    obtain ⟨m1, m2, m3, m4⟩ := addPlacement_M (τ := τ) (p := aN A 1) (key := aN A 6) (s := made) (cc := aF A 3 p) (by omega) (by omega) (by omega) h0.2.1.2.1 h0.2.2.2.2.2.2.1
    have m5 : yI (m_Mo_addPlacement τ (nI made) (nI (aF A 3 p))).2 = yI τ := by
      have key : ∀ (m n : Nat) (τ : SM) (v1 v2 v3 : Int32), yI (lp_Mo_addPlacement_48 m τ v1 v2 v3 (nI n)).2 = yI τ := by
        intro m
        induction m with
        | zero => intro n τ v1 v2 v3; rfl
        | succ m im =>
          intro n τ v1 v2 v3
          unfold lp_Mo_addPlacement_48
          by_cases z : (32 : Int32) ≤ nI n
          · rw [if_pos z]; rfl
          · rw [if_neg z, nI_1, im]; rfl
      unfold m_Mo_addPlacement
      exact (key _ 0 _ _ _ _).trans rfl
    obtain ⟨p1, p2, p3⟩ := addPlacement_C (σ := σ) (s := made) (cc := aF A 3 p) (p := aN A 1) (by omega) (by omega) (by omega) h0.2.1.1 (h2.2.2.1 made (by omega)).1 (pl_len h2 (by omega)) (lastc_lt h2 (by omega) (List.append_nil _).symm)
    generalize m_Mo_addPlacement τ (nI made) (nI (aF A 3 p)) = Z at m1 m2 m3 m5 ⊢
    generalize m_Sheets_addPlacement σ (nI made) (nI (aF A 3 p)) = Y at p1 p2 p3 ⊢
    rw [m1, p1]
    have hnep : p ≠ aN A 1 := by omega
    have hJ0 : ∀ n, n < 32 → (yL τ 0 (212 + 32 * p + n)).toInt.toNat ≤ 32 ∧ yL τ 0 (212 + 32 * p + n) = lN (yL τ 0 (212 + 32 * p + n)).toInt.toNat ∧ xL σ 5 (32 * p + n) = lN (yL τ 0 (212 + 32 * p + n)).toInt.toNat - 1 := fun n hn => by
      obtain ⟨j, w1, w2, w3⟩ := (h3 p n q1 hn).1 q2
      have : (yL τ 0 (212 + 32 * p + n)).toInt.toNat = j := by rw [w2, lN_toInt (by omega)]; rfl
      rw [this]; exact ⟨w1, w2, w3⟩
    obtain ⟨J, hJ⟩ : ∃ J : Nat → Nat, ∀ n, n < 32 → J n ≤ 32 ∧ yL τ 0 (212 + 32 * p + n) = lN (J n) ∧ xL σ 5 (32 * p + n) = lN (J n) - 1 := ⟨_, hJ0⟩
    have eY5 : xL Y.2 5 = xL σ 5 := by rw [p3, sL_row (by decide), sL_row (by decide), sL_row (by decide), sL_row (by decide)]
    have hcj : m_Sheets_copyJoints Y.2 (nI p) (nI (aN A 1)) = lp_Sheets_copyJoints_2 (32 + 1) Y.2 (nI p) (nI (aN A 1)) 0 := by unfold m_Sheets_copyJoints; rw [f33]
    obtain ⟨c1, c2, c3, c4⟩ := cpj_C q1 (show aN A 1 < 60 by omega) hnep (J := J) (fun n hn => (hJ n hn).1) 32 0 Y.2 (by omega) (fun i hi => by rw [eY5]; exact (hJ i hi).2.2)
    rw [nI_0] at c1 c2 c3 c4
    rw [hcj]
    generalize lp_Sheets_copyJoints_2 (32 + 1) Y.2 (nI p) (nI (aN A 1)) 0 = V at c1 c2 c3 c4 ⊢
    obtain ⟨τ', d1, d2, d3, d4, d5, d6⟩ := cpj_M q1 (show aN A 1 < 60 by omega) hnep (lp_Mo_copy_117 nM) (kl_Mo_copy_117 nM) (nI sheet) (nI made) 32 0 Z.2 (by omega)
    rw [nI_0] at d1 d2
    rw [d1]
    obtain ⟨t1, t2, t3, t4, t5, t6, t7⟩ := m3
    have u7 : ∀ i, i ≠ 1 → i ≠ 6 → i ≠ 32 + aN A 1 → i ≠ 92 + aN A 1 → i ≠ 152 + aN A 1 → ¬ (212 + 32 * aN A 1 ≤ i ∧ i < 212 + 32 * aN A 1 + 32) → yL τ' 0 i = yL τ 0 i := fun i w1 w2 w3 w4 w5 w6 => by rw [d6 i (by omega), t7 i w1 w2 w3 w4 w5 w6]
    have u1 : yL τ' 0 1 = lN (aN A 1 + 1) := by rw [d6 1 (by omega)]; exact t1
    have u2 : yL τ' 0 6 = lN (aN A 6 + 1) := by rw [d6 6 (by omega)]; exact t2
    have u3 : yL τ' 0 (32 + aN A 1) = lN made := by rw [d6 _ (by omega)]; exact t3
    have u4 : yL τ' 0 (92 + aN A 1) = lN (aF A 3 p) := by rw [d6 _ (by omega)]; exact t4
    have u5 : yL τ' 0 (152 + aN A 1) = lN (aN A 6) := by rw [d6 _ (by omega)]; exact t5
    have u6 : ∀ n, n < 32 → yL τ' 0 (212 + 32 * aN A 1 + n) = lN (J n) := fun n hn => by
      rw [d5 n (Nat.zero_le _) hn, t7 _ (by omega) (by omega) (by omega) (by omega) (by omega) (by omega)]; exact (hJ n hn).2.1
    have hQ' : RQ c (va_up (va_up (aN A) 1 (aN A 1 + 1)) 6 (aN A 6 + 1), va_up (va_up (va_up (va_up (aF A) 0 (va_up (aF A 0) (aN A 1) 1)) 1 (va_up (aF A 1) (aN A 1) made)) 2 (va_up (aF A 2) (aN A 1) (aN A 6))) 3 (va_up (aF A 3) (aN A 1) (aF A 3 p)), va_up (aP A) made (aP A made ++ [aN A 1]), aG A) (xL V) (yL τ' 0) := by
      have rV : ∀ k i, k ≠ 5 → xL V k i = if k = 4 ∧ i = lastc (60 + made) (aP A made) then lN (aN A 1) else if k = 3 ∧ i = aN A 1 then lN made else if k = 2 ∧ i = aN A 1 then lN (aF A 3 p) else if k = 0 ∧ i = 1 then lN (aN A 1 + 1) else xL σ k i := fun k i hk => by
        rw [c2 k hk, p3, sL_eq, sL_eq, sL_eq, sL_eq]
      have hr : ∀ j, j ≠ 0 → j ≠ 2 → j ≠ 3 → j ≠ 4 → j ≠ 5 → xL V j = xL σ j := fun j w1 w2 w3 w4 w5 => by
        funext i
        rw [rV j i w5, if_neg (fun z => w4 z.1), if_neg (fun z => w3 z.1), if_neg (fun z => w2 z.1), if_neg (fun z => w1 z.1)]
      have ra : xL V 0 1 = lN (aN A 1 + 1) := by rw [rV 0 1 (by decide), if_neg (by omega), if_neg (by omega), if_neg (by omega), if_pos ⟨rfl, rfl⟩]
      have rb : xL V 0 0 = xL σ 0 0 := by rw [rV 0 0 (by decide), if_neg (by omega), if_neg (by omega), if_neg (by omega), if_neg (by omega)]
      have rc : xL V 2 (aN A 1) = lN (aF A 3 p) := by rw [rV 2 _ (by decide), if_neg (by omega), if_neg (by omega), if_pos ⟨rfl, rfl⟩]
      have rd : ∀ j, j ≠ aN A 1 → xL V 2 j = xL σ 2 j := fun j hj => by rw [rV 2 _ (by decide), if_neg (by omega), if_neg (by omega), if_neg (by omega), if_neg (by omega)]
      have re : xL V 3 (aN A 1) = lN made := by rw [rV 3 _ (by decide), if_neg (by omega), if_pos ⟨rfl, rfl⟩]
      have rf : ∀ j, j ≠ aN A 1 → xL V 3 j = xL σ 3 j := fun j hj => by rw [rV 3 _ (by decide), if_neg (by omega), if_neg (by omega), if_neg (by omega), if_neg (by omega)]
      have rg : xL V 4 = vp_updL (xL σ 4) (lastc (60 + made) (aP A made)) (lN (aN A 1)) := by
        funext j
        rw [rV 4 _ (by decide)]
        simp [vp_updL]
      have r5 : ∀ n, n < 32 → xL V 5 (32 * aN A 1 + n) = lN (J n) - 1 := fun n hn => c3 n (Nat.zero_le _) hn
      have r5' : ∀ j, ¬ (32 * aN A 1 ≤ j ∧ j < 32 * aN A 1 + 32) → xL V 5 j = xL σ 5 j := fun j hj => by rw [c4 j (by omega), eY5]
      generalize yL τ' 0 = N' at u1 u2 u3 u4 u5 u6 u7 ⊢
      generalize xL V = L' at hr ra rb rc rd re rf rg r5 r5' ⊢
      have hN : ∀ i, i ≠ 1 → i ≠ 6 → i < 32 ∨ 2132 ≤ i → N' i = yL τ 0 i := fun i w1 w2 w3 => u7 i w1 w2 (by omega) (by omega) (by omega) (by omega)
      have z0 : R0 (va_up (va_up (aN A) 1 (aN A 1 + 1)) 6 (aN A 6 + 1)) c L' N' := by
        unfold R0
        rw [rb, ra, hr 6 (by decide) (by decide) (by decide) (by decide) (by decide), hr 12 (by decide) (by decide) (by decide) (by decide) (by decide), hr 18 (by decide) (by decide) (by decide) (by decide) (by decide), hN 0 (by omega) (by omega) (by omega), u1, hN 2 (by omega) (by omega) (by omega), hN 3 (by omega) (by omega) (by omega), hN 4 (by omega) (by omega) (by omega), hN 5 (by omega) (by omega) (by omega), u2]
        exact ⟨h0.1, ⟨rfl, rfl, show aN A 1 + 1 ≤ 60 by omega⟩, h0.2.2.1, h0.2.2.2.1, h0.2.2.2.2.1, h0.2.2.2.2.2.1, rfl, show aN A 6 + 1 ≤ 200 * c by omega, hc1000⟩
      have hpa : ∀ p, aF A 0 p ≠ 0 → p < 60 := fun p ha => Nat.lt_of_not_le fun z => ha (h2.2.2.2.2.1 p z)
      have z2 := R2_add (rk' := aF A 4) (L2' := L' 2) (L3' := L' 3) (L4' := L' 4) (N' := N') h2 hm q7 (by omega) (by omega) (fun p ha => (h2.1 p (hpa p ha) ha).2.2.2.2.1) (by rw [← hrk]; exact q5) h2.2.2.2.1 rc rd re rf rg u3 u4 u5 (fun i w1 w2 w3 w4 w5 => u7 i (by omega) (by omega) w3 w4 w5 (by omega))
      have z3 : R3 (aN A 1 + 1) (va_up (aF A 0) (aN A 1) 1) (L' 5) N' := by
        intro p' n hp' hn
        by_cases e : p' = aN A 1
        · subst e
          exact ⟨fun _ => ⟨J n, (hJ n hn).1, u6 n hn, r5 n hn⟩, fun w => by omega⟩
        · rw [va_up_ne _ _ e, u7 _ (by omega) (by omega) (by omega) (by omega) (by omega) (by omega), r5' _ (by omega)]
          exact ⟨(h3 p' n hp' hn).1, fun w => (h3 p' n hp' hn).2 (by omega)⟩
      exact ⟨z0, (by show R1 (aN A 0) (L' 1) N'; rw [hr 1 (by decide) (by decide) (by decide) (by decide) (by decide)]; exact h1.cg h0.1.2.2.2 fun i _ _ => hN i (by omega) (by omega) (by omega)), z2, z3, (by show R4 (aN A 0) (aN A 2) (aN A 6 + 1) _ _ _ _ _ (L' 7) (L' 8) (L' 9) (L' 10) (L' 11) N'; rw [hr 7 (by decide) (by decide) (by decide) (by decide) (by decide), hr 8 (by decide) (by decide) (by decide) (by decide) (by decide), hr 9 (by decide) (by decide) (by decide) (by decide) (by decide), hr 10 (by decide) (by decide) (by decide) (by decide) (by decide), hr 11 (by decide) (by decide) (by decide) (by decide) (by decide)]; exact (h4.mono (by omega) (by omega) (by omega) (by omega)).cg fun i _ _ => hN i (by omega) (by omega) (by omega)), (by show R5 (aN A 3) (L' 13) N'; rw [hr 13 (by decide) (by decide) (by decide) (by decide) (by decide)]; exact h5.cg h0.2.2.2.1.2.2 fun i _ _ => hN i (by omega) (by omega) (by omega)), (by show R6 (aN A 4) (L' 14) (L' 15) (L' 16) (L' 17) N'; rw [hr 14 (by decide) (by decide) (by decide) (by decide) (by decide), hr 15 (by decide) (by decide) (by decide) (by decide) (by decide), hr 16 (by decide) (by decide) (by decide) (by decide) (by decide), hr 17 (by decide) (by decide) (by decide) (by decide) (by decide)]; exact h6.cg h0.2.2.2.2.1.2.2 fun i _ _ => hN i (by omega) (by omega) (by omega))⟩
    have hCA : CA A (va_up (va_up (aN A) 1 (aN A 1 + 1)) 6 (aN A 6 + 1), va_up (va_up (va_up (va_up (aF A) 0 (va_up (aF A 0) (aN A 1) 1)) 1 (va_up (aF A 1) (aN A 1) made)) 2 (va_up (aF A 2) (aN A 1) (aN A 6))) 3 (va_up (aF A 3) (aN A 1) (aF A 3 p)), va_up (aP A) made (aP A made ++ [aN A 1]), aG A) made (aN A 1) := by
      refine ⟨fun k w1 w2 => ?_, fun s hs => va_up_ne _ _ hs, fun k q hq => ?_, fun k hk => ?_, rfl⟩
      · show va_up (va_up (aN A) 1 (aN A 1 + 1)) 6 (aN A 6 + 1) k = _
        rw [va_up_ne _ _ w2, va_up_ne _ _ w1]
      · have nq : q ≠ aN A 1 := by omega
        show va_up (va_up (va_up (va_up (aF A) 0 _) 1 _) 2 _) 3 _ k q = _
        by_cases k3 : k = 3
        · rw [k3, va_up_self, va_up_ne _ _ nq]
        rw [va_up_ne _ _ k3]
        by_cases k2 : k = 2
        · rw [k2, va_up_self, va_up_ne _ _ nq]
        rw [va_up_ne _ _ k2]
        by_cases k1 : k = 1
        · rw [k1, va_up_self, va_up_ne _ _ nq]
        rw [va_up_ne _ _ k1]
        by_cases k0 : k = 0
        · rw [k0, va_up_self, va_up_ne _ _ nq]
        rw [va_up_ne _ _ k0]
      · show va_up (va_up (va_up (va_up (aF A) 0 _) 1 _) 2 _) 3 _ k = _
        rw [va_up_ne _ _ (by omega), va_up_ne _ _ (by omega), va_up_ne _ _ (by omega), va_up_ne _ _ (by omega)]
    generalize hA' : ((va_up (va_up (aN A) 1 (aN A 1 + 1)) 6 (aN A 6 + 1), va_up (va_up (va_up (va_up (aF A) 0 (va_up (aF A 0) (aN A 1) 1)) 1 (va_up (aF A 1) (aN A 1) made)) 2 (va_up (aF A 2) (aN A 1) (aN A 6))) 3 (va_up (aF A 3) (aN A 1) (aF A 3 p)), va_up (aP A) made (aP A made ++ [aN A 1]), aG A) : AS) = A' at hQ' hCA
    have eA1 : aN A' 1 = aN A 1 + 1 := by rw [← hA']; rfl
    have eA6 : aN A' 6 = aN A 6 + 1 := by rw [← hA']; rfl
    have eA0 : aN A' 0 = aN A 0 := hCA.1 0 (by decide) (by decide)
    have ePs : aP A' sheet = (pre ++ [p]) ++ rest := by rw [hCA.2.1 sheet hsm, hpl]; simp
    have hkey : yL τ' 0 (152 + p) = kyo (aF A' 2) (pre ++ [p]) := by
      rw [kyo_snoc, hCA.2.2.1 2 p (by omega), u7 _ (by omega) (by omega) (by omega) (by omega) (by omega) (by omega)]; exact g1
    obtain ⟨x1, x2⟩ := next_eq (τ := τ') hQ'.2.2.1 hQ'.1.2.1.2.1 (s := sheet) (by omega) ePs
    rw [← hkey] at x1 x2
    rw [x1] at d2 ⊢
    have eN : m_Sheets_nextOf V (nI p) = hdI rest := pl_nxt (xL V) rfl hQ'.2.2.1 (s := sheet) (by omega) (x := pre) (by rw [ePs]; simp)
    rw [eN]
    have hsk := p2.tr c1
    have hbg := fun τ0 hb => d3 τ0 (m2 τ0 hb)
    obtain ⟨σ', τ'', A'', i1, i2, i3, i4, i5, i6, i7, i8, i9⟩ := ih (pre ++ [p]) V τ' A' nC nM (u + 1) hQ' (by omega) (by omega) (by rw [hCA.2.2.2.1 4 (by decide)]; exact hrk) ePs (by omega) (by omega) (by omega) (by omega) (by omega)
    refine ⟨σ', τ'', A'', i1, hsk.tr i2, i3, fun w => ⟨inA 92 (by omega), m4, d2 x2 (i4 w)⟩, fun τ0 hb => i5 τ0 (hbg τ0 hb), i6, hCA.tr i7 (by omega), ?_, ?_⟩
    · rw [i8, eA6, List.length_cons]; omega
    · rw [i9, List.length_cons]; omega
