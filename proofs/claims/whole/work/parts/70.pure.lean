section PC
variable {ns np key : Nat} {al pa od cd rk : Nat → Nat} {pl : Nat → List Nat} {N : Nat → Int64} {σ : SC}
theorem lastc_lt {L2 L3 L4 : Nat → Int64} (hR : R2 ns np key al pa od cd rk pl L2 L3 L4 N) {s : Nat} (hs : s < 24) {x r : List Nat} (h : pl s = x ++ r) : lastc (60 + s) x < 84 := by
  rcases List.mem_cons.mp (lastc_mem (60 + s) x) with e | e
  · omega
  · have := pl_lt hR hs _ (show lastc (60 + s) x ∈ pl s by rw [h]; exact List.mem_append_left _ e)
    omega
/-- a placement at the end of a sheet's list -/
theorem append_C {s p : Nat} (hs : s < 24) (hp : p < 60) {l : List Nat} (hc : chn (xL σ 4) (60 + s) l) (hl : l.length ≤ 60) : sk σ (m_Sheets_append σ (nI p) (nI s)) ∧ (lastc (60 + s) l < 84 → xL (m_Sheets_append σ (nI p) (nI s)) = sL (sL (xL σ) 3 p (lN s)) 4 (lastc (60 + s) l) (lN p)) := by
  unfold m_Sheets_append
  rw [nI_l (show s < 2 ^ 31 by omega), nI_l (show p < 2 ^ 31 by omega)]
  have e0 : xL (m_Row_set σ 3 (nI p) (lN s)) = sL (xL σ) 3 p (lN s) := rs_xL (show p < 60 from hp)
  have e1 : m_Sheets_cellBefore (m_Row_set σ 3 (nI p) (lN s)) (nI s) (-1) = nI (lastc (60 + s) l) := by
    have := cellBefore_eq (σ := m_Row_set σ 3 (nI p) (lN s)) hs (x := l) (rest := []) (by rw [e0, sL_row (by decide), List.append_nil]; exact hc) (fun a ha => nI_m1 (by have := chn_lt hc a ha; omega)) hl
    exact this
  rw [e1]
  refine ⟨(rs_sk _ _ _ _).tr (rs_sk _ _ _ _), fun hlt => ?_⟩
  rw [rs_xL (show lastc (60 + s) l < 84 from hlt), e0]
theorem unlink_C (hR : R2 ns np key al pa od cd rk pl (xL σ 2) (xL σ 3) (xL σ 4) N) {p : Nat} (hp : p < 60) (ha : al p ≠ 0) {x r : List Nat} (hx : pl (pa p) = x ++ p :: r) : sk σ (m_Sheets_unlink σ (nI p)) ∧ xL (m_Sheets_unlink σ (nI p)) = sL (sL (xL σ) 4 (lastc (60 + pa p) x) (xL σ 4 p)) 4 p (-1) := by
  have hs : pa p < 24 := by have := (hR.1 p hp ha).2.1; have := hR.2.2.2.2.2.1; omega
  have hc := (hR.2.2.1 _ hs).1
  rw [hx] at hc
  have hnd := pl_nodup hR hs
  rw [hx] at hnd
  have hlen := pl_len hR hs
  rw [hx, List.length_append] at hlen
  unfold m_Sheets_unlink
  have e1 : m_Sheets_cellBefore σ (m_Sheets_parentOf σ (nI p)) (nI p) = nI (lastc (60 + pa p) x) := by
    rw [parent_al hR ha]
    exact cellBefore_eq hs (x := x) (rest := p :: r) hc (fun a hax e => by
      have hap : a = p := (nI_eq (by have := chn_lt hc a (List.mem_append_left _ hax); omega) (by omega)).mp e
      subst hap
      exact (List.nodup_append.mp hnd).2.2 a hax a (by simp) rfl) (by omega)
  have e2 : (m_Sheets_nextOf σ (nI p)).toInt64 = xL σ 4 p := by
    unfold m_Sheets_nextOf
    rw [at_in (k := 4) (show p < 84 by omega)]
    have h3 := chn_mid x hc
    cases r with
    | nil => rw [show xL σ 4 p = -1 from h3]; decide
    | cons b t => rw [h3.1, lN_i, nI_l (by have := h3.2.1; omega)]
  rw [e1, e2]
  refine ⟨(rs_sk _ _ _ _).tr (rs_sk _ _ _ _), ?_⟩
  rw [rs_xL (show p < 84 by omega), rs_xL (lastc_lt hR hs hx)]
theorem takeAway_C (hR : R2 ns np key al pa od cd rk pl (xL σ 2) (xL σ 3) (xL σ 4) N) {p : Nat} (hp : p < 60) (ha : al p ≠ 0) {x r : List Nat} (hx : pl (pa p) = x ++ p :: r) : sk σ (m_Sheets_takeAway σ (nI p)) ∧ xL (m_Sheets_takeAway σ (nI p)) = sL (sL (sL (xL σ) 4 (lastc (60 + pa p) x) (xL σ 4 p)) 4 p (-1)) 3 p (-1) := by
  obtain ⟨h1, h2⟩ := unlink_C hR hp ha hx
  unfold m_Sheets_takeAway
  generalize m_Sheets_unlink σ (nI p) = Y at h1 h2 ⊢
  exact ⟨h1.tr (rs_sk _ _ _ _), by rw [rs_xL (show p < 60 from hp), h2]⟩
theorem addPlacement_C {s cc p : Nat} (hs : s < 24) (hcc : cc < 24) (hp : p < 60) (h1 : xL σ 0 1 = lN p) {l : List Nat} (hc : chn (xL σ 4) (60 + s) l) (hl : l.length ≤ 60) (hlt : lastc (60 + s) l < 84) : (m_Sheets_addPlacement σ (nI s) (nI cc)).1 = nI p ∧ sk σ (m_Sheets_addPlacement σ (nI s) (nI cc)).2 ∧ xL (m_Sheets_addPlacement σ (nI s) (nI cc)).2 = sL (sL (sL (sL (xL σ) 0 1 (lN (p + 1))) 2 p (lN cc)) 3 p (lN s)) 4 (lastc (60 + s) l) (lN p) := by
  unfold m_Sheets_addPlacement
  have e1 : m_Row_at σ 0 1 = nI p := by
    have := at_in (σ := σ) (k := 0) (i := 1) (by decide)
    rw [h1, lN_i] at this; exact this
  rw [e1, nI_1, nI_l (show p + 1 < 2 ^ 31 by omega), nI_l (show cc < 2 ^ 31 by omega)]
  have e2 : xL (m_Row_set (m_Row_set σ 0 1 (lN (p + 1))) 2 (nI p) (lN cc)) = sL (sL (xL σ) 0 1 (lN (p + 1))) 2 p (lN cc) := by
    rw [rs_xL (show p < 60 from hp)]
    have := rs_xL (σ := σ) (k := 0) (i := 1) (v := lN (p + 1)) (by decide)
    exact congrArg (fun z => sL z 2 p (lN cc)) this
  have hk : sk σ (m_Row_set (m_Row_set σ 0 1 (lN (p + 1))) 2 (nI p) (lN cc)) := (rs_sk σ 0 1 (lN (p + 1))).tr (rs_sk _ 2 (nI p) (lN cc))
  generalize m_Row_set (m_Row_set σ 0 1 (lN (p + 1))) 2 (nI p) (lN cc) = Y at e2 hk ⊢
  obtain ⟨k1, k2⟩ := append_C (σ := Y) (s := s) (p := p) hs hp (l := l) (by rw [e2, sL_row (by decide), sL_row (by decide)]; exact hc) hl
  have k3 := k2 hlt
  generalize m_Sheets_append Y (nI p) (nI s) = W at k1 k3 ⊢
  exact ⟨rfl, hk.tr k1, by rw [k3, e2]⟩
end PC
theorem int1 : (1 : Int32).toNatClampNeg = 1 := by decide
theorem f33 : (32 : Int32).toNatClampNeg + 1 = 32 + 1 := by decide
theorem addPl_l {p : Nat} (hp : p < 60) (v1 v2 : Int32) : ∀ (m n : Nat) (τ : SM), n + m = 32 → (lp_Mo_addPlacement_48 (m + 1) τ v1 v2 (nI p) (nI n)).1 = nI p ∧ (∀ τ0, BG τ0 τ → BG τ0 (lp_Mo_addPlacement_48 (m + 1) τ v1 v2 (nI p) (nI n)).2) ∧
    (∀ i, yL (lp_Mo_addPlacement_48 (m + 1) τ v1 v2 (nI p) (nI n)).2 0 i = if i = 1 then yL τ 0 1 + 1 else if i = 6 then yL τ 0 6 + 1 else if 212 + 32 * p + n ≤ i ∧ i < 212 + 32 * p + 32 then 0 else yL τ 0 i) ∧ kl_Mo_addPlacement_48 (m + 1) τ v1 v2 (nI p) (nI n)
  | 0, n, τ, h => by
    unfold lp_Mo_addPlacement_48 kl_Mo_addPlacement_48
    have c := show (32 : Int32) ≤ nI n from nI_le (a := 32) (by omega) (by omega)
    rw [if_pos c, if_pos c, int6, int1]
    have i6 : vp_in 6 (lnML 0) := inL 6 (by omega)
    have i1 : vp_in 1 (lnML 0) := inL 1 (by omega)
    refine ⟨rfl, fun τ0 hb => (hb.l _ _).l _ _, fun i => ?_, i6, i6, i1, i1, trivial⟩
    rw [yL_wL, yL_wL, yL_wL]
    by_cases e : i = 1
    · rw [if_pos ⟨rfl, e⟩, if_pos e, if_neg (by omega)]
    · rw [if_neg (fun z => e z.2), if_neg e]
      by_cases e6 : i = 6
      · rw [if_pos ⟨rfl, e6⟩, if_pos e6]
      · rw [if_neg (fun z => e6 z.2), if_neg e6, if_neg (by omega)]
  | m + 1, n, τ, h => by
    unfold lp_Mo_addPlacement_48 kl_Mo_addPlacement_48
    have c := show ¬ (32 : Int32) ≤ nI n from nI_ge (b := 32) (by omega) (by decide)
    rw [if_neg c, if_neg c, joint_cl hp (by omega), nI_1]
    obtain ⟨h1, h2, h3, h4⟩ := addPl_l hp v1 v2 m (n + 1) (wL τ 0 (212 + 32 * p + n) 0) (by omega)
    refine ⟨h1, fun τ0 hb => h2 τ0 (hb.l _ _), fun i => ?_, joint_in hp (by omega), h4⟩
    rw [h3 i, yL_wL, yL_wL, yL_wL]
    by_cases e : i = 1
    · rw [if_pos e, if_pos e, if_neg (by omega)]
    · rw [if_neg e, if_neg e]
      by_cases e6 : i = 6
      · rw [if_pos e6, if_pos e6, if_neg (by omega)]
      · rw [if_neg e6, if_neg e6]
        by_cases e2 : i = 212 + 32 * p + n
        · subst e2; rw [if_neg (by omega), if_pos ⟨rfl, rfl⟩, if_pos (by omega)]
        · rw [if_neg (show ¬ (0 = 0 ∧ i = 212 + 32 * p + n) from fun z => e2 z.2)]
          by_cases z : 212 + 32 * p + n ≤ i ∧ i < 212 + 32 * p + 32
          · rw [if_pos z, if_pos (by omega)]
          · rw [if_neg z, if_neg (by omega)]
theorem addPlacement_M {τ : SM} {p key s cc : Nat} (hp : p < 60) (hs : s < 24) (hcc : cc < 24) (h1 : yL τ 0 1 = lN p) (h6 : yL τ 0 6 = lN key) : (m_Mo_addPlacement τ (nI s) (nI cc)).1 = nI p ∧ (∀ τ0, BG τ0 τ → BG τ0 (m_Mo_addPlacement τ (nI s) (nI cc)).2) ∧
    (yL (m_Mo_addPlacement τ (nI s) (nI cc)).2 0 1 = lN (p + 1) ∧ yL (m_Mo_addPlacement τ (nI s) (nI cc)).2 0 6 = lN (key + 1) ∧ yL (m_Mo_addPlacement τ (nI s) (nI cc)).2 0 (32 + p) = lN s ∧ yL (m_Mo_addPlacement τ (nI s) (nI cc)).2 0 (92 + p) = lN cc ∧ yL (m_Mo_addPlacement τ (nI s) (nI cc)).2 0 (152 + p) = lN key ∧
    (∀ n, n < 32 → yL (m_Mo_addPlacement τ (nI s) (nI cc)).2 0 (212 + 32 * p + n) = 0) ∧ (∀ i, i ≠ 1 → i ≠ 6 → i ≠ 32 + p → i ≠ 92 + p → i ≠ 152 + p → ¬ (212 + 32 * p ≤ i ∧ i < 212 + 32 * p + 32) → yL (m_Mo_addPlacement τ (nI s) (nI cc)).2 0 i = yL τ 0 i)) ∧ k_Mo_addPlacement τ (nI s) (nI cc) := by
  have hct : m_Mo_count τ 1 = nI p := count_eq (k := 1) (by omega) h1
  unfold m_Mo_addPlacement k_Mo_addPlacement
  have e1 : ((32 : Int32) + nI p).toNatClampNeg = 32 + p := clA 32 (by omega)
  have e2 : ((92 : Int32) + nI p).toNatClampNeg = 92 + p := clA 92 (by omega)
  have e3 : ((152 : Int32) + nI p).toNatClampNeg = 152 + p := clA 152 (by omega)
  have e6 : yL (wL (wL τ 0 (32 + p) (lN s)) 0 (92 + p) (lN cc)) 0 6 = lN key := by rw [yL_wL, if_neg (by omega), yL_wL, if_neg (by omega)]; exact h6
  rw [hct, e1, e2, e3, f33, int6, nI_l (show s < 2 ^ 31 by omega), nI_l (show cc < 2 ^ 31 by omega), e6]
  obtain ⟨l1, l2, l3, l4⟩ := addPl_l hp (nI s) (nI cc) 32 0 (wL (wL (wL τ 0 (32 + p) (lN s)) 0 (92 + p) (lN cc)) 0 (152 + p) (lN key)) (by omega)
  rw [nI_0] at l1 l2 l3 l4
  generalize lp_Mo_addPlacement_48 (32 + 1) (wL (wL (wL τ 0 (32 + p) (lN s)) 0 (92 + p) (lN cc)) 0 (152 + p) (lN key)) (nI s) (nI cc) (nI p) 0 = Z at l1 l2 l3 ⊢
  have rd : ∀ i, yL (wL (wL (wL τ 0 (32 + p) (lN s)) 0 (92 + p) (lN cc)) 0 (152 + p) (lN key)) 0 i = if i = 152 + p then lN key else if i = 92 + p then lN cc else if i = 32 + p then lN s else yL τ 0 i := fun i => by
    rw [yL_wL, yL_wL, yL_wL]; simp
  refine ⟨l1, fun τ0 hb => l2 τ0 (((hb.l _ _).l _ _).l _ _), ⟨?_, ?_, ?_, ?_, ?_, fun n hn => ?_, fun i w1 w2 w3 w4 w5 w6 => ?_⟩, count_k (k := 1) (by decide), inA 32 (by omega), inA 92 (by omega), inL 6 (by omega), inA 152 (by omega), l4⟩
  · rw [l3, if_pos rfl, rd, if_neg (by omega), if_neg (by omega), if_neg (by omega), h1, lN_1]
  · rw [l3, if_neg (by omega), if_pos rfl, rd, if_neg (by omega), if_neg (by omega), if_neg (by omega), h6, lN_1]
  · rw [l3, if_neg (by omega), if_neg (by omega), if_neg (by omega), rd, if_neg (by omega), if_neg (by omega), if_pos rfl]
  · rw [l3, if_neg (by omega), if_neg (by omega), if_neg (by omega), rd, if_neg (by omega), if_pos rfl]
  · rw [l3, if_neg (by omega), if_neg (by omega), if_neg (by omega), rd, if_pos rfl]
  · rw [l3, if_neg (by omega), if_neg (by omega), if_pos (by omega)]
  · rw [l3, if_neg w1, if_neg w2, if_neg (by omega), rd, if_neg w5, if_neg w4, if_neg w3]
section R2T
variable {ns np key : Nat} {al pa od cd rk rk' : Nat → Nat} {pl : Nat → List Nat} {L2 L3 L4 N L2' L3' L4' N' : Nat → Int64}
/-- a placement more -/
theorem R2_put (hR : R2 ns np key al pa od cd rk pl L2 L3 L4 N) {s cc p0 np' : Nat} (hs : s < ns) (hcc : cc < ns) (hp : p0 < 60) (hdead : al p0 = 0) (hpn : p0 < np') (hnn : np ≤ np') (hn6 : np' ≤ 60) (hqq : ∀ q, q < np' → q ≠ p0 → q < np) (hk : key + 1 < 2 ^ 30) (hr1 : ∀ p, al p ≠ 0 → rk' (cd p) < rk' (pa p)) (hr2 : rk' cc < rk' s) (hr3 : ∀ s, s < 24 → rk' s < 24)
    (l2 : L2' p0 = lN cc) (l2' : ∀ j, j ≠ p0 → L2' j = L2 j) (l3 : L3' p0 = lN s) (l3' : ∀ j, j ≠ p0 → L3' j = L3 j) (l4 : L4' = vp_updL L4 (lastc (60 + s) (pl s)) (lN p0))
    (n1 : N' (32 + p0) = lN s) (n2 : N' (92 + p0) = lN cc) (n3 : N' (152 + p0) = lN key) (n4 : ∀ i, 32 ≤ i → i < 212 → i ≠ 32 + p0 → i ≠ 92 + p0 → i ≠ 152 + p0 → N' i = N i) :
    R2 ns np' (key + 1) (va_up al p0 1) (va_up pa p0 s) (va_up od p0 key) (va_up cd p0 cc) rk' (va_up pl s (pl s ++ [p0])) L2' L3' L4' N' := by
  have hns := hR.2.2.2.2.2.1
  have hnot : ∀ s', s' < 24 → p0 ∉ pl s' := fun s' hs' z => (((hR.2.2.1 s' hs').2.1 p0).mp z).2.1 hdead
  have hsort : ∀ s', s' < 24 → (pl s').Pairwise (fun a b => va_up od p0 key a < va_up od p0 key b) := fun s' hs' =>
    (hR.2.2.1 s' hs').2.2.imp_of_mem fun {a b} ha hb hab => by rw [va_up_ne od key (show a ≠ p0 from fun e => hnot s' hs' (e ▸ ha)), va_up_ne od key (show b ≠ p0 from fun e => hnot s' hs' (e ▸ hb))]; exact hab
  have hlm : ∀ a, a = lastc (60 + s) (pl s) → a = 60 + s ∨ a ∈ pl s := fun a e => by
    rcases List.mem_cons.mp (lastc_mem (60 + s) (pl s)) with z | z
    · exact Or.inl (e.trans z)
    · exact Or.inr (e ▸ z)
  refine ⟨fun p hp2 ha => ?_, fun p hp2 ha => ?_, fun s' hs' => ?_, hr3, fun p hp2 => ?_, hns, hn6, hk⟩
  · by_cases e : p = p0
    · subst e
      rw [va_up_self, va_up_self, va_up_self]
      exact ⟨hpn, hs, hcc, by omega, hr2, n3, n1, n2, l3, l2⟩
    · rw [va_up_ne _ _ e] at ha
      rw [va_up_ne _ _ e, va_up_ne _ _ e, va_up_ne _ _ e, l2' p e, l3' p e, n4 _ (by omega) (by omega) (by omega) (by omega) (by omega), n4 _ (by omega) (by omega) (by omega) (by omega) (by omega), n4 _ (by omega) (by omega) (by omega) (by omega) (by omega)]
      obtain ⟨y1, y2, y3, y4, y5, y6⟩ := hR.1 p hp2 ha
      exact ⟨by omega, y2, y3, by omega, hr1 p ha, y6⟩
  · have e : p ≠ p0 := fun e => by rw [e, va_up_self] at ha; cases ha
    rw [va_up_ne _ _ e] at ha
    obtain ⟨y1, y2, y3⟩ := hR.2.1 p hp2 ha
    refine ⟨by rw [l3' p e]; exact y1, ?_, fun z => by rw [n4 _ (by omega) (by omega) (by omega) (by omega) (by omega)]; exact y3 (hqq p z e)⟩
    rw [l4, vu]
    · exact y2
    · intro z
      rcases hlm p z with w | w
      · omega
      · exact (((hR.2.2.1 s (by omega)).2.1 p).mp w).2.1 ha
  · obtain ⟨y1, y2, y3⟩ := hR.2.2.1 s' hs'
    by_cases e : s' = s
    · subst e
      rw [va_up_self]
      refine ⟨?_, fun p => ?_, ?_⟩
      · rw [l4]
        exact chn_app hp (hR.2.1 p0 hp hdead).2.1 (hd_nodup hR hs') (fun z => by
          rcases List.mem_cons.mp z with w | w
          · omega
          · exact hnot s' hs' w) y1
      · rw [List.mem_append, List.mem_singleton]
        by_cases ep : p = p0
        · subst ep; rw [va_up_self, va_up_self]; exact ⟨fun _ => ⟨hp, by decide, rfl⟩, fun _ => Or.inr rfl⟩
        · rw [va_up_ne _ _ ep, va_up_ne _ _ ep, y2 p]
          exact ⟨fun z => z.elim id fun w => absurd w ep, Or.inl⟩
      · rw [List.pairwise_append]
        refine ⟨hsort s' hs', List.pairwise_singleton _ _, fun a ha b hb => ?_⟩
        rw [List.mem_singleton.mp hb, va_up_self, va_up_ne od key (show a ≠ p0 from fun z => hnot s' hs' (z ▸ ha))]
        obtain ⟨w1, w2, -⟩ := (y2 a).mp ha
        exact (hR.1 a w1 w2).2.2.2.1
    · rw [va_up_ne _ _ e]
      refine ⟨?_, fun p => ?_, hsort s' hs'⟩
      · rw [l4]
        refine chn_cg (fun a ha => vu fun z => ?_) y1
        rcases hlm a z with w | w
        · rcases List.mem_cons.mp ha with v | v
          · omega
          · have := pl_lt hR hs' a v; omega
        · rcases List.mem_cons.mp ha with v | v
          · have := pl_lt hR (show s < 24 by omega) a w; omega
          · have h1 := ((y2 a).mp v).2.2
            have h2 := (((hR.2.2.1 s (by omega)).2.1 a).mp w).2.2
            omega
      · by_cases ep : p = p0
        · subst ep; rw [va_up_self, va_up_self, y2]
          exact ⟨fun z => absurd hdead z.2.1, fun z => by omega⟩
        · rw [va_up_ne _ _ ep, va_up_ne _ _ ep]; exact y2 p
  · rw [va_up_ne _ _ (by omega)]; exact hR.2.2.2.2.1 p hp2
theorem R2_add (hR : R2 ns np key al pa od cd rk pl L2 L3 L4 N) {s cc : Nat} (hs : s < ns) (hcc : cc < ns) (hp : np < 60) (hk : key + 1 < 2 ^ 30) (hr1 : ∀ p, al p ≠ 0 → rk' (cd p) < rk' (pa p)) (hr2 : rk' cc < rk' s) (hr3 : ∀ s, s < 24 → rk' s < 24)
    (l2 : L2' np = lN cc) (l2' : ∀ j, j ≠ np → L2' j = L2 j) (l3 : L3' np = lN s) (l3' : ∀ j, j ≠ np → L3' j = L3 j) (l4 : L4' = vp_updL L4 (lastc (60 + s) (pl s)) (lN np))
    (n1 : N' (32 + np) = lN s) (n2 : N' (92 + np) = lN cc) (n3 : N' (152 + np) = lN key) (n4 : ∀ i, 32 ≤ i → i < 212 → i ≠ 32 + np → i ≠ 92 + np → i ≠ 152 + np → N' i = N i) :
    R2 ns (np + 1) (key + 1) (va_up al np 1) (va_up pa np s) (va_up od np key) (va_up cd np cc) rk' (va_up pl s (pl s ++ [np])) L2' L3' L4' N' :=
  R2_put hR hs hcc hp (Classical.byContradiction fun z => by have := (hR.1 np hp z).1; omega) (Nat.lt_succ_self np) (Nat.le_succ np) hp (fun q h1 h2 => by omega) hk hr1 hr2 hr3 l2 l2' l3 l3' l4 n1 n2 n3 n4
/-- a placement less -/
theorem R2_del (hR : R2 ns np key al pa od cd rk pl L2 L3 L4 N) {p : Nat} (hp : p < 60) (ha : al p ≠ 0) {x r : List Nat} (hx : pl (pa p) = x ++ p :: r) (l3 : L3' p = -1) (l3' : ∀ j, j ≠ p → L3' j = L3 j) (l4 : L4' = vp_updL (vp_updL L4 (lastc (60 + pa p) x) (L4 p)) p (-1))
    (n1 : N' (152 + p) = -1) (n2 : ∀ i, 32 ≤ i → i < 212 → i ≠ 152 + p → N' i = N i) :
    R2 ns np key (va_up al p 0) pa od cd rk (fun s => (pl s).filter (fun q => decide (q ≠ p))) L2 L3' L4' N' := by
  have hns := hR.2.2.2.2.2.1
  have hps := (hR.1 p hp ha).2.1
  have hlm : ∀ a, a = lastc (60 + pa p) x → a = 60 + pa p ∨ (a ∈ pl (pa p) ∧ a ≠ p) := fun a e => by
    rcases List.mem_cons.mp (lastc_mem (60 + pa p) x) with z | z
    · exact Or.inl (e.trans z)
    · refine Or.inr ⟨by rw [hx, e]; exact List.mem_append_left _ z, fun w => ?_⟩
      have hnd := pl_nodup hR (show pa p < 24 by omega)
      rw [hx] at hnd
      rw [← e, w] at z
      exact (List.nodup_append.mp hnd).2.2 p z p (by simp) rfl
  refine ⟨fun q hq hqa => ?_, fun q hq hqa => ?_, fun s hs => ?_, hR.2.2.2.1, fun q hq => ?_, hR.2.2.2.2.2⟩
  · have e : q ≠ p := fun e => by rw [e, va_up_self] at hqa; exact hqa rfl
    rw [va_up_ne _ _ e] at hqa
    rw [l3' q e, n2 _ (by omega) (by omega) (by omega), n2 _ (by omega) (by omega) (by omega), n2 _ (by omega) (by omega) (by omega)]
    exact hR.1 q hq hqa
  · by_cases e : q = p
    · subst e
      refine ⟨l3, by rw [l4, pk_uLs], fun _ => n1⟩
    · rw [va_up_ne _ _ e] at hqa
      obtain ⟨y1, y2, y3⟩ := hR.2.1 q hq hqa
      refine ⟨by rw [l3' q e]; exact y1, ?_, fun z => by rw [n2 _ (by omega) (by omega) (by omega)]; exact y3 z⟩
      rw [l4, vu e, vu]
      · exact y2
      · intro z
        rcases hlm q z with w | w
        · omega
        · exact (((hR.2.2.1 (pa p) (by omega)).2.1 q).mp w.1).2.1 hqa
  · obtain ⟨y1, y2, y3⟩ := hR.2.2.1 s hs
    refine ⟨?_, fun q => ?_, y3.filter _⟩
    · by_cases e : s = pa p
      · subst e
        have ef : (pl (pa p)).filter (fun q => decide (q ≠ p)) = x ++ r := by
          have hnd := pl_nodup hR hs
          rw [hx] at hnd ⊢
          have h1 := List.nodup_append.mp hnd
          have h2 := List.nodup_cons.mp h1.2.1
          rw [List.filter_append, List.filter_cons_of_neg (by simp), List.filter_eq_self.mpr, List.filter_eq_self.mpr]
          · intro a har; simp; exact fun z => h2.1 (z ▸ har)
          · intro a hax; simp; exact fun z => h1.2.2 a hax a (by rw [z]; simp) rfl
        show chn L4' _ (List.filter (fun q => decide (q ≠ p)) (pl (pa p)))
        rw [ef, l4]
        rw [hx] at y1
        have hh := hd_nodup hR hs
        rw [hx] at hh
        exact chn_unl hh y1
      · have ef : (pl s).filter (fun q => decide (q ≠ p)) = pl s := by
          rw [List.filter_eq_self]
          intro a har
          simp
          intro z
          exact e (((y2 a).mp har).2.2.symm.trans (by rw [z]))
        show chn L4' _ (List.filter (fun q => decide (q ≠ p)) (pl s))
        rw [ef, l4]
        refine chn_cg (fun a ha2 => ?_) y1
        have hne : a ≠ p := fun z => by
          rcases List.mem_cons.mp ha2 with w | w
          · omega
          · exact e (((y2 a).mp w).2.2.symm.trans (by rw [z]))
        rw [vu hne, vu]
        intro z
        rcases hlm a z with w | w
        · rcases List.mem_cons.mp ha2 with v | v
          · omega
          · have := pl_lt hR hs a v; omega
        · rcases List.mem_cons.mp ha2 with v | v
          · have := pl_lt hR (show pa p < 24 by omega) a w.1; omega
          · exact e (((y2 a).mp v).2.2.symm.trans (((hR.2.2.1 (pa p) (by omega)).2.1 a).mp w.1).2.2)
    · rw [List.mem_filter, y2 q]
      by_cases e : q = p
      · subst e; rw [va_up_self]; simp
      · rw [va_up_ne _ _ e]; simp [e]
  · rw [va_up_ne _ _ (by omega)]; exact hR.2.2.2.2.1 q hq
end R2T
