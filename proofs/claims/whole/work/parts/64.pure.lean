theorem R2.mono {ns np key ns' key' : Nat} {al pa od cd rk : Nat → Nat} {pl : Nat → List Nat} {L2 L3 L4 N : Nat → Int64} (h : R2 ns np key al pa od cd rk pl L2 L3 L4 N) (h1 : ns ≤ ns') (h2 : ns' ≤ 24) (h3 : key ≤ key') (h4 : key' < 2 ^ 30) : R2 ns' np key' al pa od cd rk pl L2 L3 L4 N := by
  obtain ⟨a, b, c, d, e, f, g, i⟩ := h
  exact ⟨fun p hp ha => by obtain ⟨x1, x2, x3, x4, x5⟩ := a p hp ha; exact ⟨x1, by omega, by omega, by omega, x5⟩, b, c, d, e, h2, g, h4⟩
theorem R4.mono {ns nq key ns' key' : Nat} {lt gc gs gp : Nat → Nat} {gl : Nat → List Nat} {L7 L8 L9 L10 L11 N : Nat → Int64} (h : R4 ns nq key lt gc gs gp gl L7 L8 L9 L10 L11 N) (h1 : ns ≤ ns') (h2 : ns' ≤ 24) (h3 : key ≤ key') (h4 : key' < 2 ^ 30) : R4 ns' nq key' lt gc gs gp gl L7 L8 L9 L10 L11 N := by
  obtain ⟨a, b, c, d, e, f, g⟩ := h
  exact ⟨a, fun k hk => by obtain ⟨x1, x2, x3, x4⟩ := b k hk; exact ⟨x1, x2, by omega, fun z => by obtain ⟨y1, y2, y3⟩ := x4 z; exact ⟨y1, by omega, y3⟩⟩, c, d, e, h2, h4⟩
theorem vu {f : Nat → Int64} {k j : Nat} {x : Int64} (h : j ≠ k) : vp_updL f k x j = f j := pk_uLn h
theorem inL (k : Nat) (h : k < 3842) : vp_in (nI k) (lnML 0) := vp_in_nI h (show 3842 < 2 ^ 31 by decide)
theorem in0 : vp_in 0 (lnML 0) := by have := inL 0 (by omega); rw [nI_0] at this; exact this
theorem okA_mk {α : Type} {c : Nat} {v w : α} {σ σ' : SC} {τ' : SM} {k : Prop} (hk : k) (h0 : yn τ' 0 = 0) (he : v = w) (hr : RL c σ' τ') (hn : nsh σ ≤ nsh σ' + 1 := by exact Nat.le_succ _) : okA c σ (v, σ') k (w, τ') := ⟨hk, h0, he, hr, hn⟩
theorem okX_no {α : Type} {c : Nat} {w : α} {σ : SC} {τ' : SM} {k : Prop} (hk : k) (h0 : yn τ' 0 = 1) (hr : RL c σ τ') : okX c σ none k (w, τ') := ⟨hk, Or.inl ⟨rfl, h0, hr⟩⟩
theorem okX_mk {α : Type} {c : Nat} {v w : α} {σ σ' : SC} {τ' : SM} {k : Prop} (hk : k) (h0 : yn τ' 0 = 0) (he : v = w) (hr : RL c σ' τ') (hn : nsh σ ≤ nsh σ' + 1 := by exact Nat.le_succ _) : okX c σ (some (v, σ')) k (w, τ') := ⟨hk, Or.inr ⟨v, σ', rfl, h0, he, hr, hn⟩⟩
theorem lN0 : lN 0 = 0 := by decide
theorem lN1 : lN 1 = 1 := by decide
theorem key30 {c : Nat} {A : AS} {L : LL} {N : Nat → Int64} (h : RR c A L N) : aN A 6 + 400 < 2 ^ 30 := by
  have h1 := h.1.2.2.2.2.2.2.2.1
  have h2 := h.1.2.2.2.2.2.2.2.2
  omega
theorem op_sheet {c : Nat} (hc : c + 1 ≤ 1000) {σ : SC} {τ : SM} (h : RL c σ τ) : okA (c + 1) σ (m_ST_sheet σ) (k_Mo_sheet τ) (m_Mo_sheet τ) := by
  have hup := h.up hc
  obtain ⟨A, hA, ho, hB, hP, hl, hH⟩ := h
  have b := hA.1.1.2.2.2
  have b0 := hA.1.1.2.2.1
  obtain ⟨g1, g2, g3⟩ := BG_begin τ
  unfold m_ST_sheet m_Mo_sheet k_Mo_sheet m_Sheets_addSheet m_Sheets_sheetCount
  have e1 : m_Mo_count (wn τ 0 0) 0 = nI (aN A 0) := ct0 (τ := wn τ 0 0) hA
  have e2 : m_Mo_count (m_Mo_begin (wn τ 0 0)) 0 = nI (aN A 0) := ct0 (τ := m_Mo_begin (wn τ 0 0)) (σ := σ) (by rw [g2]; exact hA)
  rw [cc0 hA, e1, e2]
  generalize m_Mo_begin (wn τ 0 0) = τb at g1 g2 g3 ⊢
  by_cases c24 : aN A 0 = 24
  · have c1 : ¬ nI (aN A 0) < 24 := by rw [c24]; decide
    have c2 : nI (aN A 0) = 24 := by rw [c24]; rfl
    rw [if_neg c1, if_pos c2, if_pos c2]
    exact ⟨⟨count_k (k := 0) (by decide), trivial⟩, rfl, rfl, hup.th 0, Nat.le_succ _⟩
  · have c1 : nI (aN A 0) < 24 := nI_lt (b := 24) (by omega) (by decide)
    have c2 : ¬ nI (aN A 0) = 24 := fun z => c24 ((nI_eq (b := 24) (by omega) (by decide)).mp z)
    have e8 : ((8 : Int32) + nI (aN A 0)).toNatClampNeg = 8 + aN A 0 := clA 8 (by omega)
    have z0 : (0 : Int32).toNatClampNeg = 0 := by decide
    rw [if_pos c1, if_neg c2, if_neg c2, e8, z0, nI_1, nI_l (by omega)]
    have bg := (g1.l (8 + aN A 0) 0).l 0 (yL (wL τb 0 (8 + aN A 0) 0) 0 0 + 1)
    have eN : yL (wL (wL τb 0 (8 + aN A 0) 0) 0 0 (yL (wL τb 0 (8 + aN A 0) 0) 0 0 + 1)) 0 = vp_updL (vp_updL (yL τ 0) (8 + aN A 0) 0) 0 (lN (aN A 0 + 1)) := by
      rw [yL_wL0, yL_wL0, g2, vu (by omega), hA.1.1.2.1, lN_1]
    have eL : xL (m_Row_set σ 0 0 (lN (aN A 0 + 1))) = sL (xL σ) 0 0 (lN (aN A 0 + 1)) := rs_xL (i := 0) (by decide)
    obtain ⟨k1, k2, k3, k4⟩ := kept_op hc (A' := (va_up (aN A) 0 (aN A 0 + 1), A.2)) hA ho hB hl hH (rs_sk σ 0 0 _) bg (by
      rw [eN, eL]
      obtain ⟨h0, h1, h2, h3, h4, h5, h6, h7⟩ := hA.up hc
      have ky := key30 hA
      refine ⟨?_, ?_, ?_, ?_, ?_, ?_, ?_, h7⟩
      · refine ⟨⟨?_, ?_, ?_, ?_⟩, ?_⟩
        · rw [sL_same]; rfl
        · rw [pk_uLs]; rfl
        · show 0 < aN A 0 + 1; omega
        · show aN A 0 + 1 ≤ 24; omega
        · rw [sL_cell (by decide), sL_row (by decide), sL_row (by decide), sL_row (by decide), vu (by omega), vu (by omega), vu (by omega), vu (by omega), vu (by omega), vu (by omega), vu (by omega), vu (by omega), vu (by omega), vu (by omega), vu (by omega), vu (by omega)]
          exact h0.2
      · show R1 (aN A 0 + 1) (sL (xL σ) 0 0 _ 1) _
        rw [sL_row (by decide)]
        refine ⟨fun s hs => ?_, fun s h1' h2' => h1.2 s (by omega) h2'⟩
        rw [vu (by omega)]
        by_cases e : s = aN A 0
        · subst e; rw [pk_uLs, h1.2 _ (Nat.le_refl _) (by omega)]
        · rw [vu (by omega)]; exact h1.1 s (by omega)
      · show R2 (aN A 0 + 1) (aN A 1) (aN A 6) _ _ _ _ _ _ (sL (xL σ) 0 0 _ 2) (sL (xL σ) 0 0 _ 3) (sL (xL σ) 0 0 _ 4) _
        rw [sL_row (by decide), sL_row (by decide), sL_row (by decide)]
        exact (h2.mono (by omega) (by omega) (Nat.le_refl _) (by omega)).cg fun i _ _ => by rw [vu (by omega), vu (by omega)]
      · show R3 (aN A 1) _ (sL (xL σ) 0 0 _ 5) _
        rw [sL_row (by decide)]
        exact h3.cg fun i _ _ => by rw [vu (by omega), vu (by omega)]
      · show R4 (aN A 0 + 1) (aN A 2) (aN A 6) _ _ _ _ _ (sL (xL σ) 0 0 _ 7) (sL (xL σ) 0 0 _ 8) (sL (xL σ) 0 0 _ 9) (sL (xL σ) 0 0 _ 10) (sL (xL σ) 0 0 _ 11) _
        rw [sL_row (by decide), sL_row (by decide), sL_row (by decide), sL_row (by decide), sL_row (by decide)]
        exact (h4.mono (by omega) (by omega) (Nat.le_refl _) (by omega)).cg fun i _ _ => by rw [vu (by omega), vu (by omega)]
      · show R5 (aN A 3) (sL (xL σ) 0 0 _ 13) _
        rw [sL_row (by decide)]
        exact h5.cg h0.2.2.2.1.2.2 fun i _ _ => by rw [vu (by omega), vu (by omega)]
      · show R6 (aN A 4) (sL (xL σ) 0 0 _ 14) (sL (xL σ) 0 0 _ 15) (sL (xL σ) 0 0 _ 16) (sL (xL σ) 0 0 _ 17) _
        rw [sL_row (by decide), sL_row (by decide), sL_row (by decide), sL_row (by decide)]
        exact h6.cg h0.2.2.2.2.1.2.2 fun i _ _ => by rw [vu (by omega), vu (by omega)]) rfl ⟨Nat.le_succ _, Nat.le_refl _⟩
    exact okA_mk ⟨count_k (k := 0) (by decide), g3, count_k (k := 0) (by decide), inA 8 (by omega), in0, in0, k1, trivial⟩ k3 rfl k2 k4
