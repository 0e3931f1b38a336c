/-! answers: a call that can't throw, a call that may throw; what the state is worth behind -/
def nsh (σ : SC) : Nat := nsL (xL σ)
def okA {α : Type} (c : Nat) (σ : SC) (r : α × SC) (k : Prop) (t : α × SM) : Prop := k ∧ yn t.2 0 = 0 ∧ r.1 = t.1 ∧ RL c r.2 t.2 ∧ nsh σ ≤ nsh r.2 + 1
def okX {α : Type} (c : Nat) (σ : SC) (r : Option (α × SC)) (k : Prop) (t : α × SM) : Prop := k ∧ ((r = none ∧ yn t.2 0 = 1 ∧ RL c σ t.2) ∨ ∃ v σ', r = some (v, σ') ∧ yn t.2 0 = 0 ∧ v = t.1 ∧ RL c σ' t.2 ∧ nsh σ ≤ nsh σ' + 1)
/-- the reference's word on throwing is no part of what is tied -/
theorem RL.th {c : Nat} {σ : SC} {τ : SM} (h : RL c σ τ) (v : Int32) : RL c σ (wn τ 0 v) := by
  obtain ⟨A, h1, h2, h3, h4, h5, n, i, f, g1, g2, g3, g4, g5, g6, g7, g8⟩ := h
  exact ⟨A, h1, h2, h3, h4, h5, n, i, f, g1, g2, g3, g4, g5, g6, g7, g8⟩
theorem xn_unw (t : List Chg) (s : SC) : xn (unw t s) = xn s := by show (unw t s).2.2.1 = _; rw [unw_o]; rfl
theorem xa_unwq (t : List Chg) (s : SC) : xa (unw t s) = xa s := by show (unw t s).2.2.2.1 = _; rw [unw_o]; rfl
theorem xn_zo (s : SC) (t : List Chg) : xn (zo s t) = xn s := rfl
theorem xa_zo (s : SC) (t : List Chg) : xa (zo s t) = xa s := rfl
theorem xn_za (s : SC) (k : Nat) (t : List Chg) : xn (za s k t) = xn s := rfl
theorem xn_jP (s : SC) (x : Int32) (t : List Chg) : xn (jP s x t) = xn s := by
  unfold jP; split
  · rfl
  · split <;> rfl
theorem stepBack_eq {σ : SC} {n i : Nat} (hn : n < 50) (hi : i < 50) (h0 : xn σ 0 = nI (n + 1)) (h1 : xn σ 1 = nI i) : ∃ σ', m_Journal_stepBack σ = (true, σ') ∧ xL σ' = unL (xa σ ((i + 49) % 50)) (xL σ) ∧ xo σ' = [] ∧ xn σ' 0 = nI n ∧ xn σ' 1 = nI ((i + 49) % 50) ∧ xa σ' = va_up (xa σ) ((i + 49) % 50) [] := by
  have hx : jNx σ = nI ((i + 49) % 50) := by
    unfold jNx
    rw [h1]
    have : nI i + 50 - 1 = nI (i + 49) := by
      show nI i + nI 50 - 1 = _
      rw [nI_add]
      exact nI_pred (i + 49)
    rw [this, fifty _ (by omega)]
  have hm : (i + 49) % 50 < 50 := Nat.mod_lt _ (by decide)
  unfold m_Journal_stepBack
  rw [if_neg (by rw [h0]; exact nI_ne0 (by omega) (by omega))]
  refine ⟨_, rfl, ?_⟩
  unfold m_Journal_takeBack
  have ea : jA σ (jNx σ) = xa σ ((i + 49) % 50) := by
    unfold jA; rw [hx, if_neg (nI_pos (by omega)), if_neg (nI_ge hm (by decide)), nI_clamp (by omega)]
  have ep : ∀ (s : SC) (t : List Chg), jP s (jNx σ) t = za s ((i + 49) % 50) t := fun s t => by
    unfold jP; rw [hx, if_neg (nI_pos (by omega)), if_neg (nI_ge hm (by decide)), nI_clamp (by omega)]
  rw [ea, ep]
  have hz : ∀ (s : SC) (t : List Chg), xo (za s ((i + 49) % 50) t) = xo s := fun _ _ => rfl
  have hz2 : ∀ (s : SC) (t : List Chg), xo (zo s t) = t := fun _ _ => rfl
  rw [hz, hz2]
  refine ⟨?_, rfl, ?_, ?_, ?_⟩
  · show xL (unw _ _) = _
    rw [unw_xL]; rfl
  · rw [xn_zo, xn_unw, xn_za, xn_zo, xn_zn, if_neg (by decide), xn_zn, if_pos rfl, h0]; exact nI_pred n
  · rw [xn_zo, xn_unw, xn_za, xn_zo, xn_zn, if_pos rfl, hx]
  · rw [xa_zo, xa_unwq]; rfl
theorem stepBack_n {σ : SC} (k : Nat) (hk : 2 ≤ k) : xn (m_Journal_stepBack σ).2 k = xn σ k := by
  unfold m_Journal_stepBack
  split
  · rfl
  · unfold m_Journal_takeBack
    rw [xn_zo, xn_unw, xn_jP, xn_zo, xn_zn, if_neg (by omega), xn_zn, if_neg (by omega)]
theorem op_undo {c : Nat} (hc : c + 1 ≤ 1000) {σ : SC} {τ : SM} (h : RL c σ τ) : okA (c + 1) σ (m_ST_undo σ) (k_Mo_undo τ) (m_Mo_undo τ) := by
  have hup := h.up hc
  obtain ⟨A, h1, h2, h3, h4, h5, n, i, f, g1, g2, g3, g4, g5, g6, g7, g8⟩ := h
  unfold m_ST_undo m_Mo_undo k_Mo_undo
  cases n with
  | zero =>
    have e : m_Journal_stepBack σ = (false, σ) := by unfold m_Journal_stepBack; rw [if_pos (by rw [g4]; rfl)]
    have c0 : yn τ 1 = 0 := by rw [g6]; rfl
    rw [e, if_pos (by rfl), if_pos c0, if_pos c0]
    exact ⟨trivial, rfl, rfl, hup.th 0, Nat.le_succ _⟩
  | succ n =>
    obtain ⟨σ', e1, e2, e3, e4, e5, e6⟩ := stepBack_eq (n := n) (by omega) g2 g4 g5
    have c0 : ¬ yn τ 1 = 0 := by rw [g6]; exact nI_ne0 (by omega) (by omega)
    have e7 := fun k hk => stepBack_n (σ := σ) k hk
    rw [e1] at e7
    rw [e1, if_neg (show ¬ bi true = 0 by decide), if_neg c0, if_neg c0, g6, g7]
    have ep : nI (n + 1) - 1 = nI n := nI_pred n
    rw [ep, nI_add, fifty _ (by omega), f3842]
    have hm : (f + n) % 50 < 50 := Nat.mod_lt _ (by decide)
    obtain ⟨u1, u2⟩ := undo_l ((f + n) % 50) hm 3842 0 (wn (wn τ 0 0) 1 (nI n)) (by omega)
    rw [nI_0] at u1 u2
    obtain ⟨⟨A', hA', hn'⟩, hh⟩ := g8
    have ej : ((f + (n + 1)) % 50 + 49) % 50 = (f + n) % 50 := by omega
    rw [ej] at hA' hh
    have hR2 := hA'.2.2.1
    rw [u1]
    have hlay := lay_eq (σ := zn σ' 3 0) (N := fun k => yL τ 2 (3842 * ((f + n) % 50) + k)) (by show R2 _ _ _ _ _ _ _ _ _ (xL σ' 2) (xL σ' 3) (xL σ' 4) _; rw [e2]; exact hR2)
    show okA (c + 1) σ (true, m_Book_lay (zn σ' 3 0)) _ _
    generalize m_Book_lay (zn σ' 3 0) = B at hlay ⊢
    obtain ⟨l1, l2, l3, l4, l5⟩ := hlay
    refine ⟨u2, rfl, rfl, ⟨A', ?_, l3.trans e3, l1, (fun z => by cases z), l5 3 (by decide), n, (i + 49) % 50, f, by omega, Nat.mod_lt _ (by decide), g3, (l5 0 (by decide)).trans e4, (l5 1 (by decide)).trans e5, rfl, g7, ?_⟩, ?_⟩
    · have l2' : xL B = unL (xa σ ((i + 49) % 50)) (xL σ) := l2.trans e2
      show RR (c + 1) A' (xL B) _
      rw [l2']
      refine (hA'.up hc).cg fun k hk => ?_
      show yL (wf (wn (wR _ 0 _) 3 0) false) 0 k = _
      rw [yL_wf, yL_wn, yL_wR, if_pos ⟨Nat.zero_le _, hk⟩]; rfl
    · have l2' : xL B = unL (xa σ ((i + 49) % 50)) (xL σ) := l2.trans e2
      have l4' : xa B = va_up (xa σ) ((i + 49) % 50) [] := l4.trans e6
      show hs (c + 1) (xa B) (yL (wf (wn (wR (wn (wn τ 0 0) 1 (nI n)) 0 _) 3 0) false) 2) n ((i + 49) % 50) ((f + n) % 50) (xL B)
      rw [l2', l4', yL_wf, yL_wn, yL_wRn _ _ (by decide)]
      exact hs_cg (i0 := (i + 49) % 50) (j0 := (f + n) % 50) (Nat.mod_lt _ (by decide)) hm (fun a _ ha => va_up_ne _ _ ha) (fun a b _ _ _ => rfl) n 0 (by omega) (by omega) (by omega) (hs_up hc hh)
    · show nsL (xL σ) ≤ nsL (xL B) + 1
      have l2' : xL B = unL (xa σ ((i + 49) % 50)) (xL σ) := l2.trans e2
      rw [l2', hA'.ns]; exact hn'
