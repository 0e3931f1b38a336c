/-! ===== the reference's copies ===== -/
def wR (τ : SM) (k : Nat) (f : Nat → Int64) : SM := (va_up τ.1 k f, τ.2)
theorem wR_wL (τ : SM) (k i : Nat) (v : Int64) (f : Nat → Int64) : wR (wL τ k i v) k f = wR τ k f := by
  unfold wR wL
  congr 1
  funext j
  by_cases e : j = k <;> simp [va_up, e]
theorem wR_id (τ : SM) (k : Nat) : wR τ k (yL τ k) = τ := by
  unfold wR
  have : va_up τ.1 k (yL τ k) = τ.1 := by
    funext j
    by_cases e : j = k
    · subst e; simp [va_up, yL]
    · simp [va_up, e]
  rw [this]
theorem yL_wR (τ : SM) (k : Nat) (f : Nat → Int64) : yL (wR τ k f) k = f := by simp [yL, wR, va_up]
theorem yL_wRn (τ : SM) {k k' : Nat} (f : Nat → Int64) (h : k' ≠ k) : yL (wR τ k f) k' = yL τ k' := by simp [yL, wR, va_up, h]
theorem wR_cg (τ : SM) (k : Nat) {f g : Nat → Int64} (h : ∀ i, f i = g i) : wR τ k f = wR τ k g := by rw [show f = g from funext h]
theorem ge3842 {i : Nat} (h : i < 3842) : ¬ (3842 : Int32) ≤ nI i := nI_ge (b := 3842) h (by decide)
theorem le3842 {i : Nat} (h : 3842 ≤ i) (h2 : i < 2 ^ 31) : (3842 : Int32) ≤ nI i := nI_le (a := 3842) h h2
theorem begin_l : ∀ (m i : Nat) (τ : SM), i + m = 3842 → lp_Mo_begin_2 (m + 1) τ (nI i) = wR τ 1 (fun k => if i ≤ k ∧ k < 3842 then yL τ 0 k else yL τ 1 k) ∧ kl_Mo_begin_2 (m + 1) τ (nI i)
  | 0, i, τ, h => by
    unfold lp_Mo_begin_2 kl_Mo_begin_2
    have c := le3842 (i := i) (by omega) (by omega)
    rw [if_pos c, if_pos c]
    refine ⟨?_, trivial⟩
    rw [wR_cg τ 1 (g := yL τ 1) (fun k => if_neg (by omega)), wR_id]
  | m + 1, i, τ, h => by
    unfold lp_Mo_begin_2 kl_Mo_begin_2
    have c := ge3842 (i := i) (by omega)
    rw [if_neg c, if_neg c, nI_1, nI_clamp (by omega)]
    obtain ⟨h1, h2⟩ := begin_l m (i + 1) (wL τ 1 i (yL τ 0 i)) (by omega)
    refine ⟨?_, vp_in_nI (show i < 3842 by omega) (by decide), vp_in_nI (show i < 3842 by omega) (by decide), h2⟩
    rw [h1, wR_wL]
    apply wR_cg
    intro k
    rw [yL_wLn _ _ _ _ (by decide), yL_wL]
    by_cases e : k = i
    · subst e; rw [if_neg (by omega), if_pos ⟨rfl, rfl⟩, if_pos (by omega)]
    · rw [if_neg (show ¬ (1 = 1 ∧ k = i) from fun z => e z.2)]
      by_cases z : i ≤ k ∧ k < 3842
      · rw [if_pos z, if_pos (by omega)]
      · rw [if_neg z, if_neg (by omega)]
def cpN (f g : Nat → Int64) : Nat → Int64 := fun k => if k < 3842 then f k else g k
theorem cpN_in {f g : Nat → Int64} {k : Nat} (h : k < 3842) : cpN f g k = f k := if_pos h
theorem f3842 : (3842 : Int32).toNatClampNeg + 1 = 3842 + 1 := by decide
theorem begin_eq (τ : SM) : m_Mo_begin τ = wR τ 1 (cpN (yL τ 0) (yL τ 1)) ∧ k_Mo_begin τ := by
  unfold m_Mo_begin k_Mo_begin
  rw [f3842]
  obtain ⟨h1, h2⟩ := begin_l 3842 0 τ (by omega)
  rw [nI_0] at h1 h2
  refine ⟨h1.trans (wR_cg τ 1 fun k => ?_), h2⟩
  unfold cpN
  by_cases z : k < 3842
  · rw [if_pos z, if_pos ⟨Nat.zero_le _, z⟩]
  · rw [if_neg z, if_neg (fun y => z y.2)]
theorem giveBack_l : ∀ (m i : Nat) (τ : SM), i + m = 3842 → lp_Mo_giveBack_2 (m + 1) τ (nI i) = wf (wR τ 0 (fun k => if i ≤ k ∧ k < 3842 then yL τ 1 k else yL τ 0 k)) false ∧ kl_Mo_giveBack_2 (m + 1) τ (nI i)
  | 0, i, τ, h => by
    unfold lp_Mo_giveBack_2 kl_Mo_giveBack_2
    have c := le3842 (i := i) (by omega) (by omega)
    rw [if_pos c, if_pos c]
    refine ⟨?_, trivial⟩
    rw [wR_cg τ 0 (g := yL τ 0) (fun k => if_neg (by omega)), wR_id]
  | m + 1, i, τ, h => by
    unfold lp_Mo_giveBack_2 kl_Mo_giveBack_2
    have c := ge3842 (i := i) (by omega)
    rw [if_neg c, if_neg c, nI_1, nI_clamp (by omega)]
    obtain ⟨h1, h2⟩ := giveBack_l m (i + 1) (wL τ 0 i (yL τ 1 i)) (by omega)
    refine ⟨?_, vp_in_nI (show i < 3842 by omega) (by decide), vp_in_nI (show i < 3842 by omega) (by decide), h2⟩
    rw [h1, wR_wL]
    congr 1
    apply wR_cg
    intro k
    rw [yL_wLn _ _ _ _ (by decide), yL_wL]
    by_cases e : k = i
    · subst e; rw [if_neg (by omega), if_pos ⟨rfl, rfl⟩, if_pos (by omega)]
    · rw [if_neg (show ¬ (0 = 0 ∧ k = i) from fun z => e z.2)]
      by_cases z : i ≤ k ∧ k < 3842
      · rw [if_pos z, if_pos (by omega)]
      · rw [if_neg z, if_neg (by omega)]
theorem giveBack_eq (τ : SM) : m_Mo_giveBack τ = wf (wR τ 0 (cpN (yL τ 1) (yL τ 0))) false ∧ k_Mo_giveBack τ := by
  unfold m_Mo_giveBack k_Mo_giveBack
  rw [f3842]
  obtain ⟨h1, h2⟩ := giveBack_l 3842 0 τ (by omega)
  rw [nI_0] at h1 h2
  refine ⟨h1.trans (congrArg (fun t => wf t false) (wR_cg τ 0 fun k => ?_)), h2⟩
  unfold cpN
  by_cases z : k < 3842
  · rw [if_pos z, if_pos ⟨Nat.zero_le _, z⟩]
  · rw [if_neg z, if_neg (fun y => z y.2)]
/-- block a of the kept rows -/
def bkN (a : Nat) (f g : Nat → Int64) : Nat → Int64 := fun j => if 3842 * a ≤ j ∧ j < 3842 * a + 3842 then f (j - 3842 * a) else g j
theorem bkN_in {a : Nat} {f g : Nat → Int64} {k : Nat} (h : k < 3842) : bkN a f g (3842 * a + k) = f k := by
  unfold bkN; rw [if_pos (by omega)]; congr 1; omega
theorem bkN_out {a b : Nat} {f g : Nat → Int64} {k : Nat} (h : k < 3842) (hb : b ≠ a) : bkN a f g (3842 * b + k) = g (3842 * b + k) := by
  unfold bkN; rw [if_neg (by omega)]
theorem blk_i {a i : Nat} (ha : a < 50) (hi : i < 3842) : ((3842 : Int32) * nI a) + nI i = nI (3842 * a + i) := by
  show nI 3842 * nI a + nI i = _
  rw [pk_mul, nI_add]
theorem done_l (a : Nat) (ha : a < 50) : ∀ (m i : Nat) (τ : SM), i + m = 3842 → lp_Mo_done_15 (m + 1) τ (nI a) (nI i) = (if yn τ 1 = 50 then wf (wn (wR τ 2 (fun j => if 3842 * a + i ≤ j ∧ j < 3842 * a + 3842 then yL τ 1 (j - 3842 * a) else yL τ 2 j)) 2 ((yn τ 2 + 1) - (yn τ 2 + 1) / 50 * 50)) false else wf (wn (wR τ 2 (fun j => if 3842 * a + i ≤ j ∧ j < 3842 * a + 3842 then yL τ 1 (j - 3842 * a) else yL τ 2 j)) 1 (yn τ 1 + 1)) false) ∧ kl_Mo_done_15 (m + 1) τ (nI a) (nI i)
  | 0, i, τ, h => by
    unfold lp_Mo_done_15 kl_Mo_done_15
    have c := le3842 (i := i) (by omega) (by omega)
    rw [if_pos c, if_pos c]
    refine ⟨?_, by split <;> trivial⟩
    rw [wR_cg τ 2 (g := yL τ 2) (fun k => if_neg (by omega)), wR_id]
  | m + 1, i, τ, h => by
    unfold lp_Mo_done_15 kl_Mo_done_15
    have c := ge3842 (i := i) (by omega)
    rw [if_neg c, if_neg c, nI_1, blk_i ha (by omega), nI_clamp (by omega), nI_clamp (by omega)]
    obtain ⟨h1, h2⟩ := done_l a ha m (i + 1) (wL τ 2 (3842 * a + i) (yL τ 1 i)) (by omega)
    refine ⟨?_, vp_in_nI (show i < 3842 by omega) (by decide), vp_in_nI (show 3842 * a + i < 192100 by omega) (by decide), h2⟩
    rw [h1, wR_wL]
    have e : wR τ 2 (fun j => if 3842 * a + (i + 1) ≤ j ∧ j < 3842 * a + 3842 then yL (wL τ 2 (3842 * a + i) (yL τ 1 i)) 1 (j - 3842 * a) else yL (wL τ 2 (3842 * a + i) (yL τ 1 i)) 2 j) = wR τ 2 (fun j => if 3842 * a + i ≤ j ∧ j < 3842 * a + 3842 then yL τ 1 (j - 3842 * a) else yL τ 2 j) := by
      apply wR_cg
      intro k
      rw [yL_wLn _ _ _ _ (by decide), yL_wL]
      by_cases e : k = 3842 * a + i
      · subst e; rw [if_neg (by omega), if_pos ⟨rfl, rfl⟩, if_pos (by omega)]; congr 1; omega
      · rw [if_neg (show ¬ (2 = 2 ∧ k = 3842 * a + i) from fun z => e z.2)]
        by_cases z : 3842 * a + i ≤ k ∧ k < 3842 * a + 3842
        · rw [if_pos z, if_pos (by omega)]
        · rw [if_neg z, if_neg (by omega)]
    rw [e]
    rfl
theorem fifty (x : Nat) (h : x < 2 ^ 31) : nI x - nI x / 50 * 50 = nI (x % 50) := pk_rem (d := 50) h (by decide) (by decide)
theorem wn_id {t : SM} {k : Nat} {v : Int32} (h : yn t k = v) : wn t k v = t := by
  unfold wn
  have e : va_up t.2.2.1 k v = t.2.2.1 := by
    funext j
    by_cases z : j = k
    · subst z; rw [va_up_self]; exact h.symm
    · rw [va_up_ne _ _ z]
  rw [e]
theorem done_eq {τ : SM} {f n : Nat} (hf : f < 50) (hn : n ≤ 50) (h1 : yn τ 1 = nI n) (h2 : yn τ 2 = nI f) : ∃ n' f', (n' = min (n + 1) 50 ∧ f' < 50 ∧ (f' + n') % 50 = (f + n + 1) % 50) ∧
    m_Mo_done τ = wf (wn (wn (wR τ 2 (bkN ((f + n) % 50) (yL τ 1) (yL τ 2))) 2 (nI f')) 1 (nI n')) false ∧ k_Mo_done τ := by
  have ha : (f + n) % 50 < 50 := Nat.mod_lt _ (by decide)
  unfold m_Mo_done k_Mo_done
  rw [h1, h2, nI_add, fifty _ (by omega), f3842]
  obtain ⟨g1, g2⟩ := done_l _ ha 3842 0 τ (by omega)
  rw [nI_0] at g1 g2
  rw [g1]
  have e : (fun j => if 3842 * ((f + n) % 50) + 0 ≤ j ∧ j < 3842 * ((f + n) % 50) + 3842 then yL τ 1 (j - 3842 * ((f + n) % 50)) else yL τ 2 j) = bkN ((f + n) % 50) (yL τ 1) (yL τ 2) := rfl
  rw [e, h1, h2]
  by_cases c : n = 50
  · subst c
    rw [if_pos (by decide), nI_1, fifty _ (by omega)]
    refine ⟨50, (f + 1) % 50, ⟨by omega, Nat.mod_lt _ (by decide), by omega⟩, ?_, g2⟩
    rw [wn_id (t := wn (wR τ 2 (bkN ((f + 50) % 50) (yL τ 1) (yL τ 2))) 2 (nI ((f + 1) % 50))) (k := 1) (show yn τ 1 = _ from h1)]
  · rw [if_neg (fun z : nI n = 50 => c ((nI_eq (by omega) (by decide)).mp z)), nI_1]
    refine ⟨n + 1, f, ⟨by omega, hf, by omega⟩, ?_, g2⟩
    rw [wn_id (t := wR τ 2 (bkN ((f + n) % 50) (yL τ 1) (yL τ 2))) (k := 2) (show yn τ 2 = _ from h2)]
theorem undo_l (a : Nat) (ha : a < 50) : ∀ (m i : Nat) (τ : SM), i + m = 3842 → lp_Mo_undo_39 (m + 1) τ (nI a) (nI i) = (true, wf (wn (wR τ 0 (fun k => if i ≤ k ∧ k < 3842 then yL τ 2 (3842 * a + k) else yL τ 0 k)) 3 0) false) ∧ kl_Mo_undo_39 (m + 1) τ (nI a) (nI i)
  | 0, i, τ, h => by
    unfold lp_Mo_undo_39 kl_Mo_undo_39
    have c := le3842 (i := i) (by omega) (by omega)
    rw [if_pos c, if_pos c]
    refine ⟨?_, trivial⟩
    rw [wR_cg τ 0 (g := yL τ 0) (fun k => if_neg (by omega)), wR_id]
  | m + 1, i, τ, h => by
    unfold lp_Mo_undo_39 kl_Mo_undo_39
    have c := ge3842 (i := i) (by omega)
    rw [if_neg c, if_neg c, nI_1, blk_i ha (by omega), nI_clamp (by omega), nI_clamp (by omega)]
    obtain ⟨h1, h2⟩ := undo_l a ha m (i + 1) (wL τ 0 i (yL τ 2 (3842 * a + i))) (by omega)
    refine ⟨?_, vp_in_nI (show 3842 * a + i < 192100 by omega) (by decide), vp_in_nI (show i < 3842 by omega) (by decide), h2⟩
    rw [h1, wR_wL]
    congr 3
    apply wR_cg
    intro k
    rw [yL_wLn _ _ _ _ (by decide), yL_wL]
    by_cases e : k = i
    · subst e; rw [if_neg (by omega), if_pos ⟨rfl, rfl⟩, if_pos (by omega)]
    · rw [if_neg (show ¬ (0 = 0 ∧ k = i) from fun z => e z.2)]
      by_cases z : i ≤ k ∧ k < 3842
      · rw [if_pos z, if_pos (by omega)]
      · rw [if_neg z, if_neg (by omega)]
