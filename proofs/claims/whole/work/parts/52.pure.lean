/-! ===== the placements: what both sides hold of them ===== -/
def chn (F : Nat → Int64) : Nat → List Nat → Prop
  | c, [] => F c = -1
  | c, p :: t => F c = lN p ∧ p < 60 ∧ chn F p t
/-- al alive, pa parent, od order, cd the sheet that it shows, rk a rank that falls downwards, pl the placements on a sheet in order -/
def R2 (ns np key : Nat) (al pa od cd rk : Nat → Nat) (pl : Nat → List Nat) (L2 L3 L4 N : Nat → Int64) : Prop :=
  (∀ p, p < 60 → al p ≠ 0 → p < np ∧ pa p < ns ∧ cd p < ns ∧ od p < key ∧ rk (cd p) < rk (pa p) ∧ N (152 + p) = lN (od p) ∧ N (32 + p) = lN (pa p) ∧ N (92 + p) = lN (cd p) ∧ L3 p = lN (pa p) ∧ L2 p = lN (cd p)) ∧
  (∀ p, p < 60 → al p = 0 → L3 p = -1 ∧ L4 p = -1 ∧ (p < np → N (152 + p) = -1)) ∧
  (∀ s, s < 24 → chn L4 (60 + s) (pl s) ∧ (∀ p, p ∈ pl s ↔ p < 60 ∧ al p ≠ 0 ∧ pa p = s) ∧ (pl s).Pairwise (fun a b => od a < od b)) ∧
  (∀ s, s < 24 → rk s < 24) ∧ (∀ p, 60 ≤ p → al p = 0) ∧ ns ≤ 24 ∧ np ≤ 60 ∧ key < 2 ^ 30
theorem R2.cg {ns np key : Nat} {al pa od cd rk : Nat → Nat} {pl : Nat → List Nat} {L2 L3 L4 N N' : Nat → Int64} (hR : R2 ns np key al pa od cd rk pl L2 L3 L4 N) (h : ∀ i, 32 ≤ i → i < 212 → N' i = N i) : R2 ns np key al pa od cd rk pl L2 L3 L4 N' := by
  refine ⟨fun p hp ha => ?_, fun p hp ha => ?_, hR.2.2⟩
  · obtain ⟨h1, h2, h3, h4, h5, h6, h7, h8, h9⟩ := hR.1 p hp ha
    exact ⟨h1, h2, h3, h4, h5, by rw [h _ (by omega) (by omega)]; exact h6, by rw [h _ (by omega) (by omega)]; exact h7, by rw [h _ (by omega) (by omega)]; exact h8, h9⟩
  · obtain ⟨h1, h2, h3⟩ := hR.2.1 p hp ha
    exact ⟨h1, h2, fun z => by rw [h _ (by omega) (by omega)]; exact h3 z⟩
/-! one round of what lies below -/
def rnd (al pa cd : Nat → Nat) : Nat → Nat → Int32 → Int32
  | 0, _, x => x
  | n + 1, p, x => rnd al pa cd n (p + 1) (if al p ≠ 0 ∧ tb x (pa p) = true then x ||| (1 <<< (nI (cd p) &&& 31)) else x)
theorem rnd_dead {al pa cd : Nat → Nat} : ∀ (n p : Nat) (x : Int32), (∀ q, p ≤ q → al q = 0) → rnd al pa cd n p x = x
  | 0, _, _, _ => rfl
  | n + 1, p, x, h => by
    show rnd al pa cd n (p + 1) _ = x
    rw [if_neg (fun z => z.1 (h p (Nat.le_refl p))), rnd_dead n (p + 1) x (fun q hq => h q (by omega))]
theorem rnd_add {al pa cd : Nat → Nat} : ∀ (n m p : Nat) (x : Int32), rnd al pa cd (n + m) p x = rnd al pa cd m (p + n) (rnd al pa cd n p x)
  | 0, m, p, x => by simp [rnd]
  | n + 1, m, p, x => by
    rw [Nat.add_right_comm]
    show rnd al pa cd (n + m) (p + 1) _ = rnd al pa cd m _ (rnd al pa cd n (p + 1) _)
    rw [rnd_add n m (p + 1)]
    rw [show p + 1 + n = p + (n + 1) by omega]
theorem rnd_mono {al pa cd : Nat → Nat} (j : Nat) : ∀ (n p : Nat) (x : Int32), tb x j = true → tb (rnd al pa cd n p x) j = true
  | 0, _, _, h => h
  | n + 1, p, x, h => by
    apply rnd_mono j n (p + 1)
    split
    · rw [tb_or, h]; rfl
    · exact h
/-- no bit comes but those of shown sheets -/
theorem rnd_hi {al pa cd : Nat → Nat} {m : Nat} (hm : m ≤ 32) (hc : ∀ p, al p ≠ 0 → cd p < m) (j : Nat) (hj : m ≤ j) : ∀ (n p : Nat) (x : Int32), tb (rnd al pa cd n p x) j = tb x j
  | 0, _, _ => rfl
  | n + 1, p, x => by
    show tb (rnd al pa cd n (p + 1) _) j = _
    rw [rnd_hi hm hc j hj n (p + 1)]
    split
    · rename_i h
      have := hc p h.1
      rw [tb_or, tb_one (by omega)]
      have e : (j == cd p) = false := by simp; omega
      rw [e, Bool.or_false]
    · rfl
/-- a round that changes nothing: the set is closed -/
theorem rnd_closed {al pa cd : Nat → Nat} {m : Nat} (hm : m ≤ 32) (hc : ∀ p, al p ≠ 0 → cd p < m) : ∀ (n p : Nat) (x : Int32), (∀ j, tb (rnd al pa cd n p x) j = true → tb x j = true) → ∀ q, p ≤ q → q < p + n → al q ≠ 0 → tb x (pa q) = true → tb x (cd q) = true
  | 0, _, _, _, _, h1, h2, _, _ => by omega
  | n + 1, p, x, h, q, h1, h2, h3, h4 => by
    have hx : ∀ j, tb (if al p ≠ 0 ∧ tb x (pa p) = true then x ||| (1 <<< (nI (cd p) &&& 31)) else x) j = true → tb x j = true := fun j hj => h j (rnd_mono j n (p + 1) _ hj)
    by_cases e : q = p
    · subst e
      apply hx
      rw [if_pos ⟨h3, h4⟩, tb_or, tb_one (by have := hc q h3; omega)]
      simp
    · by_cases c : al p ≠ 0 ∧ tb x (pa p) = true
      · rw [if_pos c] at hx
        have e2 : x ||| (1 <<< (nI (cd p) &&& 31)) = x := tb_ext fun j _ => by
          cases hj : tb (x ||| (1 <<< (nI (cd p) &&& 31))) j
          · cases hk : tb x j
            · rfl
            · rw [tb_or, hk] at hj; exact absurd hj (by simp)
          · exact (hx j hj).symm
        refine rnd_closed hm hc n (p + 1) x (fun j hj => h j ?_) q (by omega) (by omega) h3 h4
        show tb (rnd al pa cd n (p + 1) _) j = true
        rw [if_pos c, e2]; exact hj
      · refine rnd_closed hm hc n (p + 1) x (fun j hj => h j ?_) q (by omega) (by omega) h3 h4
        show tb (rnd al pa cd n (p + 1) _) j = true
        rw [if_neg c]; exact hj
def itr (f : Int32 → Int32) : Nat → Int32 → Int32
  | 0, x => x
  | n + 1, x => f (itr f n x)
theorem itr_fix {f : Int32 → Int32} {x : Int32} {k : Nat} (h : f (itr f k x) = itr f k x) : ∀ n, itr f (k + n) x = itr f k x
  | 0 => rfl
  | n + 1 => by show f (itr f (k + n) x) = _; rw [itr_fix h n, h]
def cb (x : Int32) : Nat := (List.range 24).countP (fun j => tb x j)
theorem cb_le (x : Int32) : cb x ≤ 24 := by
  have := List.countP_le_length (p := fun j => tb x j) (l := List.range 24)
  simpa [cb] using this
theorem countP_lt {α : Type} {p q : α → Bool} : ∀ {l : List α}, (∀ a ∈ l, p a = true → q a = true) → (∃ a ∈ l, q a = true ∧ p a = false) → l.countP p < l.countP q
  | [], _, h => by obtain ⟨a, ha, _⟩ := h; cases ha
  | a :: l, h, hx => by
    have hle : l.countP p ≤ l.countP q := List.countP_mono_left fun b hb => h b (List.mem_cons_of_mem _ hb)
    rw [List.countP_cons, List.countP_cons]
    by_cases c : q a = true ∧ p a = false
    · rw [if_pos c.1, if_neg (by rw [c.2]; decide)]; omega
    · have h2 : ∃ b ∈ l, q b = true ∧ p b = false := by
        obtain ⟨b, hb, hb2⟩ := hx
        rcases List.mem_cons.mp hb with e | e
        · subst e; exact absurd hb2 c
        · exact ⟨b, e, hb2⟩
      have h3 := countP_lt (fun b hb => h b (List.mem_cons_of_mem _ hb)) h2
      have h4 := h a List.mem_cons_self
      by_cases e : p a = true
      · rw [if_pos e, if_pos (h4 e)]; omega
      · rw [if_neg e]; split <;> omega
theorem itr_stab {f : Int32 → Int32} (hm : ∀ x j, tb x j = true → tb (f x) j = true) (hh : ∀ x j, 24 ≤ j → tb (f x) j = tb x j) {x : Int32} (hx : 0 < cb x) : f (itr f 23 x) = itr f 23 x := by
  have key : ∀ k, (∃ i, i ≤ k ∧ f (itr f i x) = itr f i x) ∨ k + 2 ≤ cb (itr f (k + 1) x) := by
    intro k
    have one : ∀ y, f y = y ∨ cb y < cb (f y) := by
      intro y
      by_cases e : f y = y
      · exact Or.inl e
      · refine Or.inr (countP_lt (fun a _ h => hm y a h) ?_)
        refine Classical.byContradiction fun no => e (tb_ext fun j hj => ?_)
        by_cases z : 24 ≤ j
        · exact hh y j z
        · cases h1 : tb y j
          · cases h2 : tb (f y) j
            · rfl
            · exact absurd ⟨j, by simpa using z, h2, h1⟩ no
          · exact hm y j h1
    induction k with
    | zero =>
      rcases one x with h | h
      · exact Or.inl ⟨0, Nat.le_refl _, h⟩
      · refine Or.inr ?_
        show 2 ≤ cb (f x); omega
    | succ k ih =>
      rcases ih with ⟨i, hi, h⟩ | h
      · exact Or.inl ⟨i, by omega, h⟩
      · rcases one (itr f (k + 1) x) with h2 | h2
        · exact Or.inl ⟨k + 1, by omega, h2⟩
        · refine Or.inr ?_
          show k + 3 ≤ cb (f (itr f (k + 1) x)); omega
  rcases key 23 with ⟨i, hi, h⟩ | h
  · have := itr_fix h (23 - i)
    rw [show i + (23 - i) = 23 by omega] at this
    rw [this, h]
  · have := cb_le (itr f (23 + 1) x); omega
