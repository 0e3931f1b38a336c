/-! ===== PURE: rows of the class's state, set and unwound ===== -/
abbrev LL : Type := Nat → Nat → Int64
def sL (L : LL) (k i : Nat) (v : Int64) : LL := va_up L k (vp_updL (L k) i v)
theorem sL_same (L : LL) (k i : Nat) (v : Int64) : sL L k i v k i = v := by simp [sL, va_up, vp_updL]
theorem sL_row {L : LL} {k i : Nat} {v : Int64} {k' : Nat} (h : k' ≠ k) : sL L k i v k' = L k' := by simp [sL, va_up, h]
theorem sL_cell {L : LL} {k i : Nat} {v : Int64} {k' i' : Nat} (h : i' ≠ i) : sL L k i v k' i' = L k' i' := by
  by_cases e : k' = k
  · subst e; simp [sL, va_up, vp_updL, h]
  · simp [sL, va_up, e]
theorem sL_eq (L : LL) (k i : Nat) (v : Int64) (k' i' : Nat) : sL L k i v k' i' = if k' = k ∧ i' = i then v else L k' i' := by
  by_cases e : k' = k
  · subst e; by_cases f : i' = i <;> simp [sL, va_up, vp_updL, f]
  · simp [sL, va_up, e]
theorem sL_id {L : LL} {k i : Nat} {v : Int64} (h : L k i = v) : sL L k i v = L := by
  funext a b; rw [sL_eq]; split
  · rename_i e; rw [e.1, e.2, h]
  · rfl
theorem sL_back {L : LL} {k i : Nat} {v : Int64} : sL (sL L k i v) k i (L k i) = L := by
  funext a b; rw [sL_eq, sL_eq]; split
  · rename_i e; rw [e.1, e.2]
  · rfl
def restL (L : LL) (k : Nat) (x : Int32) (v : Int64) : LL := if x < 0 then L else if nI (lnR k) ≤ x then L else sL L k x.toNatClampNeg v
def unL : List Chg → LL → LL
  | [], L => L
  | x :: t, L => unL t (restL L x.1 x.2.1 x.2.2)
theorem xL_rest (σ : SC) (k : Nat) (x : Int32) (v : Int64) : xL (m_Row_restore σ k x v) = restL (xL σ) k x v := by
  unfold m_Row_restore restL; split
  · rfl
  · split <;> rfl
theorem rest_o (σ : SC) (k : Nat) (x : Int32) (v : Int64) : (m_Row_restore σ k x v).2 = σ.2 := by
  unfold m_Row_restore; split
  · rfl
  · split <;> rfl
theorem unw_xL : ∀ (t : List Chg) (σ : SC), xL (unw t σ) = unL t (xL σ)
  | [], _ => rfl
  | x :: t, σ => by
    show xL (unw t _) = unL t _
    rw [unw_xL t, xL_rest]
theorem unw_o : ∀ (t : List Chg) (σ : SC), (unw t σ).2 = σ.2
  | [], _ => rfl
  | x :: t, σ => by
    show (unw t _).2 = _
    rw [unw_o t, rest_o]
/-- the rows as they were when the open act began -/
def U (σ : SC) : LL := unL (xo σ) (xL σ)
/-- the same but for rows of longs and the open act, which still unwinds to the same rows -/
def sk (σ σ' : SC) : Prop := U σ' = U σ ∧ xI σ' = xI σ ∧ xn σ' = xn σ ∧ xa σ' = xa σ
theorem sk_rfl (σ : SC) : sk σ σ := ⟨rfl, rfl, rfl, rfl⟩
theorem sk.tr {a b c : SC} (h : sk a b) (g : sk b c) : sk a c := ⟨g.1.trans h.1, g.2.1.trans h.2.1, g.2.2.1.trans h.2.2.1, g.2.2.2.trans h.2.2.2⟩
theorem cmp0 {x y : Int64} : lg_cmp x y = 0 ↔ x = y := by
  unfold lg_cmp; split
  · rename_i h
    constructor
    · intro e; exact absurd e (by decide)
    · intro e; subst e; exact absurd h (Int64.lt_irrefl)
  · split
    · simp [*]
    · rename_i h; constructor
      · intro e; exact absurd e (by decide)
      · intro e; exact absurd e h
theorem restL_back (L : LL) (k : Nat) (x : Int32) (v : Int64) : restL (restL L k x v) k x (if x < 0 then -1 else if nI (lnR k) ≤ x then -1 else L k x.toNatClampNeg) = L := by
  unfold restL; split
  · rfl
  · split
    · rfl
    · exact sL_back
theorem longAt_eq (σ : SC) (k : Nat) (x : Int32) : m_Row_longAt σ k x = if x < 0 then -1 else if nI (lnR k) ≤ x then -1 else xL σ k x.toNatClampNeg := rfl
theorem rs_sk (σ : SC) (k : Nat) (x : Int32) (v : Int64) : sk σ (m_Row_set σ k x v) := by
  unfold m_Row_set; split
  · exact sk_rfl σ
  · have h2 : ∀ (τ : SC), xo (m_Row_restore τ k x v) = xo τ := fun τ => by show (m_Row_restore τ k x v).2.2.2.2 = _; rw [rest_o]; rfl
    have h3 : ∀ (τ : SC), xI (m_Row_restore τ k x v) = xI τ ∧ xn (m_Row_restore τ k x v) = xn τ ∧ xa (m_Row_restore τ k x v) = xa τ := fun τ => by
      show (m_Row_restore τ k x v).2.1 = _ ∧ (m_Row_restore τ k x v).2.2.1 = _ ∧ (m_Row_restore τ k x v).2.2.2.1 = _
      rw [rest_o]; exact ⟨rfl, rfl, rfl⟩
    refine ⟨?_, h3 _⟩
    unfold U
    rw [h2, xL_rest]
    show unL (xo σ) (restL (restL (xL σ) k x v) k x (m_Row_longAt σ k x)) = _
    rw [longAt_eq, restL_back]
theorem rs_gen (σ : SC) (k : Nat) (x : Int32) (v : Int64) : xL (m_Row_set σ k x v) = restL (xL σ) k x v := by
  unfold m_Row_set; split
  · rename_i h
    rw [cmp0, longAt_eq] at h
    unfold restL
    split
    · rfl
    · split
      · rfl
      · rename_i h1 h2
        rw [if_neg h1, if_neg h2] at h
        exact (sL_id h).symm
  · rw [xL_rest]; rfl
theorem restL_in {L : LL} {k i : Nat} {v : Int64} (h : i < lnR k) : restL L k (nI i) v = sL L k i v := by
  have := lnR_lt k
  unfold restL; rw [if_neg (nI_pos (by omega)), if_neg (nI_ge h this), nI_clamp (by omega)]
theorem rs_xL {σ : SC} {k i : Nat} {v : Int64} (h : i < lnR k) : xL (m_Row_set σ k (nI i) v) = sL (xL σ) k i v := by rw [rs_gen, restL_in h]
theorem at_in {σ : SC} {k i : Nat} (h : i < lnR k) : m_Row_at σ k (nI i) = (xL σ k i).toInt32 := by
  have := lnR_lt k
  unfold m_Row_at; rw [if_neg (nI_pos (by omega)), if_neg (nI_ge h this), nI_clamp (by omega)]
theorem la_in {σ : SC} {k i : Nat} (h : i < lnR k) : m_Row_longAt σ k (nI i) = xL σ k i := by
  have := lnR_lt k
  unfold m_Row_longAt; rw [if_neg (nI_pos (by omega)), if_neg (nI_ge h this), nI_clamp (by omega)]
theorem rd_in {σ : SC} {j i : Nat} (h : i < lnI j) : m_ST_read σ j (nI i) = xI σ j i := by
  have := lnI_lt j
  unfold m_ST_read; rw [if_neg (nI_pos (by omega)), if_neg (nI_ge h this), nI_clamp (by omega)]
theorem wr_in {σ : SC} {j i : Nat} {v : Int32} (h : i < lnI j) : m_ST_write σ j (nI i) v = zI σ j i v := by
  have := lnI_lt j
  unfold m_ST_write; rw [if_neg (nI_pos (by omega)), if_neg (nI_ge h this), nI_clamp (by omega)]
theorem m1_neg : (-1 : Int32) < 0 := by decide
theorem at_neg {σ : SC} {k : Nat} : m_Row_at σ k (-1) = -1 := by unfold m_Row_at; rw [if_pos m1_neg]
theorem rd_neg {σ : SC} {k : Nat} : m_ST_read σ k (-1) = -1 := by unfold m_ST_read; rw [if_pos m1_neg]
theorem at_big {σ : SC} {k i : Nat} (h : lnR k ≤ i) (hi : i < 2 ^ 31) : m_Row_at σ k (nI i) = -1 := by
  unfold m_Row_at; rw [if_neg (nI_pos (by omega)), if_pos (nI_le h hi)]
theorem at_bad {σ : SC} {k : Nat} {x : Int32} (h : ¬ vp_in x (lnR k)) : m_Row_at σ k x = -1 := by
  unfold m_Row_at; split
  · rfl
  · split
    · rfl
    · rename_i h1 h2
      obtain ⟨j, hj, rfl⟩ := nI_of h1
      refine absurd (vp_in_nI ?_ (lnR_lt k)) h
      exact Nat.lt_of_not_le fun z => h2 (nI_le z hj)
theorem m1_32 : (-1 : Int64).toInt32 = -1 := by decide
theorem m1_64 : (-1 : Int32).toInt64 = -1 := by decide
theorem nI_m1 {n : Nat} (h : n < 2 ^ 31) : ¬ nI n = -1 := fun e => by
  have a := nI_toInt h
  rw [e] at a
  have : (-1 : Int32).toInt = -1 := by decide
  omega
theorem lN_m1 {n : Nat} (h : n < 2 ^ 31) : ¬ lN n = -1 := fun e => by
  have a := lN_toInt h
  rw [e] at a
  have : (-1 : Int64).toInt = -1 := by decide
  omega
theorem lN_l {n : Nat} (h : n < 2 ^ 31) : (nI n).toInt64 = lN n := nI_l h
