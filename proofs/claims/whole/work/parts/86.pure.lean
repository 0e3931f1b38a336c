theorem addPart_yI (τ : SM) (a b : Int64) : yI (m_Mo_addPart τ a b).2 = yI τ := by
  have key : ∀ (m n : Nat) (τ : SM) (v1 v3 : Int64) (v5 : Int32), yI (lp_Mo_addPart_34 m τ v1 v3 v5 (nI n)).2 = yI τ := by
    intro m
    induction m with
    | zero => intro n τ v1 v3 v5; rfl
    | succ m im =>
      intro n τ v1 v3 v5
      unfold lp_Mo_addPart_34
      by_cases z : (8 : Int32) ≤ nI n
      · rw [if_pos z]; rfl
      · rw [if_neg z, nI_1, im]; rfl
  unfold m_Mo_addPart
  exact (key _ 0 _ _ _ _).trans rfl
theorem putGate_yI (τ : SM) (x y : Int32) : yI (m_Mo_putGate τ x y) = yI τ := rfl
theorem rem8 {k : Nat} (h : k < 2 ^ 31) : nI k - nI k / 8 * 8 = nI (k % 8) := pk_rem (d := 8) h (by decide) (by decide)
theorem div8 {k : Nat} (h : k < 2 ^ 31) : nI k / 8 = nI (k / 8) := pk_div (d := 8) h (by decide) (by decide)
theorem BG.i {τ τ1 : SM} (h : BG τ τ1) (k i : Nat) (v : Int32) : BG τ (wI τ1 k i v) := ⟨h.1, h.2.1, h.2.2.1, h.2.2.2⟩
theorem cpg_l {c : Nat} {sheet made nq0 : Nat} (hsm : sheet ≠ made) : ∀ (rest pre : List Nat) (σ : SC) (τ : SM) (A : AS) (T : Nat → Nat) (nC nM : Nat), RQ c A (xL σ) (yL τ 0) → (pgs (aP A) (aF A 3)).length ≤ 300 → sheet < aN A 0 → made < aN A 0 → aG A sheet = pre ++ rest → TW A nq0 made pre T σ τ → nq0 + (fdp (aG A sheet)).length ≤ 30 → (∀ k ∈ aG A sheet, k < 8 * nq0) → aN A 6 + rest.length ≤ 200 * c → rest.length < nC → rest.length < nM →
    ∃ σ' τ' A', lp_Parts_addPartsLike_17 nC σ (nI sheet) (nI made) (nI (aG A sheet).length) (nI pre.length) = σ' ∧ sj σ σ' ∧ lp_Mo_copy_241 nM τ (nI sheet) (nI made) (-1) (hdI rest) = (nI made, m_Mo_done τ') ∧ (k_Mo_done τ' → kl_Mo_copy_241 nM τ (nI sheet) (nI made) (-1) (hdI rest)) ∧
      (∀ τ0, BG τ0 τ → BG τ0 τ') ∧ RQ c A' (xL σ') (yL τ' 0) ∧ CG A A' := by
  intro rest
  induction rest with
  | nil =>
    intro pre σ τ A T nC nM hQ hlim hs hm hgl hT h30 hb hk hC hM
    obtain ⟨nC, rfl⟩ : ∃ j, nC = j + 1 := ⟨nC - 1, by omega⟩
    obtain ⟨nM, rfl⟩ : ∃ j, nM = j + 1 := ⟨nM - 1, by omega⟩
    have hlen := (hQ.2.2.2.2.1.2.2.2.1 sheet (by have := hQ.1.1.2.2.2; omega)).2.1
    rw [List.append_nil] at hgl
    unfold lp_Parts_addPartsLike_17 lp_Mo_copy_241 kl_Mo_copy_241
    have eh : hdI [] = -1 := rfl
    rw [hgl] at hlen ⊢
    rw [eh, if_pos (nI_le (Nat.le_refl _) (by omega)), if_pos rfl, if_pos rfl]
    exact ⟨σ, τ, A, rfl, sj_rfl σ, rfl, fun w => ⟨w, trivial⟩, fun _ hb => hb, hQ, CG_rfl A⟩
  | cons k rest ih =>
    intro pre σ τ A T nC nM hQ hlim hs hm hgl hT h30 hb hk hC hM
    rw [List.length_cons] at hk hC hM
    obtain ⟨nC, rfl⟩ : ∃ j, nC = j + 1 := ⟨nC - 1, by omega⟩
    obtain ⟨nM, rfl⟩ : ∃ j, nM = j + 1 := ⟨nM - 1, by omega⟩
    have hRR := hQ.rr hlim
    have b0 := hQ.1.1.2.2.2
    have b2 := hQ.1.2.2.1.2.2
    have hR := hQ.2.2.2.2.1
    obtain ⟨y1, y2, y3, y4, y5⟩ := hR.2.2.2.1 sheet (by omega)
    have hll : pre.length < (aG A sheet).length := by rw [hgl, List.length_append, List.length_cons]; omega
    have hka : (aG A sheet)[pre.length]? = some k := by rw [hgl, List.getElem?_append_right (Nat.le_refl _)]; simp
    have hkm : k ∈ aG A sheet := List.mem_of_getElem? hka
    obtain ⟨e1, e2, e3, e4, e5⟩ := partAt_eq hRR (show sheet < 24 by omega) hka
    have hk0 := hb k hkm
    obtain ⟨T1, T2, T3, T4, T5⟩ := hT
    have hq0 : k / 8 < nq0 := by omega
    have hnq : nq0 ≤ 30 := by omega
    obtain ⟨z1, z2, z3, z4, z5, z6, z7⟩ := hR.1 (k / 8) e2
    have hkg := ((hR.2.1 k e4).2.2.2 (by omega)).2.2
    have hnd := gl_nodup hR (show sheet < 24 by omega)
    rw [hgl] at hnd
    have hkpre : k ∉ pre := fun z => (List.nodup_append.mp hnd).2.2 k z k (by simp) rfl
    have hgl' : aG A sheet = (pre ++ [k]) ++ rest := by rw [hgl, List.append_assoc]; rfl
    have hpl : (pre ++ [k]).length = pre.length + 1 := by simp
    have nkm : ¬ nI k = -1 := nI_m1 (by omega)
    -- behind the part: the gate
    have fin : ∀ (σ1 : SC) (τ1 : SM) (A1 : AS) (U1 : Nat → Nat), RQ c A1 (xL σ1) (yL τ1 0) → CG A A1 → aG A1 = aG A → aN A1 6 = aN A 6 → sj σ σ1 → (∀ τ0, BG τ0 τ → BG τ0 τ1) → aN A1 2 = nq0 + (fdp (pre ++ [k])).length →
        (∀ q, q < 30 → (q ∈ fdp (pre ++ [k]) → xI σ1 6 q = nI (U1 q) ∧ yI τ1 6 q = nI (U1 q)) ∧ (q ∉ fdp (pre ++ [k]) → xI σ1 6 q = -1 ∧ yI τ1 6 q = -1)) →
        (∀ q, q ∈ fdp (pre ++ [k]) → nq0 ≤ U1 q ∧ U1 q < aN A1 2 ∧ aF A1 6 (U1 q) = aF A1 6 q ∧ ∀ g, g < 8 → aF A1 7 (8 * U1 q + g) ≠ 0 → 8 * q + g ∈ pre) → (∀ q q', q ∈ fdp (pre ++ [k]) → q' ∈ fdp (pre ++ [k]) → U1 q = U1 q' → q = q') → aF A1 6 (k / 8) = aF A 6 (k / 8) → (∀ j, j < 8 * nq0 → aF A1 8 j = aF A 8 j ∧ yL τ1 0 (2432 + j) = yL τ 0 (2432 + j)) → xL σ1 10 = xL σ 10 →
        ∃ σ' τ' A', lp_Parts_addPartsLike_17 nC (m_Parts_layGate σ1 (nI made) (nI (U1 (k / 8))) (nI (k % 8))) (nI sheet) (nI made) (nI (aG A sheet).length) (nI (pre.length + 1)) = σ' ∧ sj σ σ' ∧
          lp_Mo_copy_241 nM (m_Mo_putGate τ1 (nI (8 * U1 (k / 8) + k % 8)) (nI made)) (nI sheet) (nI made) (-1) (m_Mo_nextGate (m_Mo_putGate τ1 (nI (8 * U1 (k / 8) + k % 8)) (nI made)) (nI sheet) (yL (m_Mo_putGate τ1 (nI (8 * U1 (k / 8) + k % 8)) (nI made)) 0 (2432 + k))) = (nI made, m_Mo_done τ') ∧
          (k_Mo_done τ' → k_Mo_putGate τ1 (nI (8 * U1 (k / 8) + k % 8)) (nI made) ∧ k_Mo_nextGate (m_Mo_putGate τ1 (nI (8 * U1 (k / 8) + k % 8)) (nI made)) (nI sheet) (yL (m_Mo_putGate τ1 (nI (8 * U1 (k / 8) + k % 8)) (nI made)) 0 (2432 + k)) ∧ kl_Mo_copy_241 nM (m_Mo_putGate τ1 (nI (8 * U1 (k / 8) + k % 8)) (nI made)) (nI sheet) (nI made) (-1) (m_Mo_nextGate (m_Mo_putGate τ1 (nI (8 * U1 (k / 8) + k % 8)) (nI made)) (nI sheet) (yL (m_Mo_putGate τ1 (nI (8 * U1 (k / 8) + k % 8)) (nI made)) 0 (2432 + k)))) ∧
          (∀ τ0, BG τ0 τ → BG τ0 τ') ∧ RQ c A' (xL σ') (yL τ' 0) ∧ CG A A' := by
      intro σ1 τ1 A1 U1 hQ1 hCG hG1 h61 hsj hbg hn2 hmk hU hinj hgc hgp h10
      have hR1 := hQ1.2.2.2.2.1
      have hqin : k / 8 ∈ fdp (pre ++ [k]) := (fdp_mem _ _).mpr ⟨k, by simp, rfl⟩
      obtain ⟨v1, v2, v3, v4⟩ := hU (k / 8) hqin
      have a0 : aN A1 0 = aN A 0 := hCG.1 0 (by decide) (by decide)
      have a30 : aN A1 2 ≤ 30 := hQ1.1.2.2.1.2.2
      have hfree : aF A1 7 (8 * U1 (k / 8) + k % 8) = 0 := Classical.byContradiction fun z => by
        have := v4 (k % 8) (by omega) z
        rw [show 8 * (k / 8) + k % 8 = k by omega] at this
        exact hkpre this
      have hml : (aG A1 made).length = pre.length := by rw [hG1]; exact T2
      obtain ⟨m1, m2, m3, m4, m5, m6⟩ := putGate_M (τ := τ1) (k := 8 * U1 (k / 8) + k % 8) (s := made) (key := aN A1 6) (by omega) (by omega) hQ1.1.2.2.2.2.2.2.1
      obtain ⟨p1, p2⟩ := layGate_C (σ := σ1) (s := made) (q := U1 (k / 8)) (g := k % 8) (n := (aG A1 made).length) (by omega) (by omega) (by omega) (by omega) (hR1.2.2.2.1 made (by omega)).1
      have hQ2 := RQ_gate (s := made) (q := U1 (k / 8)) (g := k % 8) hQ1 (by omega) v2 (by rw [v3, hgc]; exact hkg) hfree (by omega) (by omega) p2 m2 m3 m4 m5
      have hyI : yI (m_Mo_putGate τ1 (nI (8 * U1 (k / 8) + k % 8)) (nI made)) = yI τ1 := rfl
      generalize m_Mo_putGate τ1 (nI (8 * U1 (k / 8) + k % 8)) (nI made) = τ2 at m1 m2 m3 m4 m5 hQ2 hyI ⊢
      generalize m_Parts_layGate σ1 (nI made) (nI (U1 (k / 8))) (nI (k % 8)) = σ2 at p1 p2 hQ2 ⊢
      have hCG2 : CG A1 (va_up (aN A1) 6 (aN A1 6 + 1), va_up (va_up (aF A1) 7 (va_up (aF A1 7) (8 * U1 (k / 8) + k % 8) (made + 1))) 8 (va_up (aF A1 8) (8 * U1 (k / 8) + k % 8) (aN A1 6)), aP A1, va_up (aG A1) made (aG A1 made ++ [8 * U1 (k / 8) + k % 8])) :=
        ⟨fun j w1 w2 => va_up_ne _ _ w2, rfl, fun j hj => by
          show va_up (va_up (aF A1) 7 _) 8 _ j = _
          rw [va_up_ne _ _ (by omega), va_up_ne _ _ (by omega)]⟩
      have f6 : ∀ j, aF ((va_up (aN A1) 6 (aN A1 6 + 1), va_up (va_up (aF A1) 7 (va_up (aF A1 7) (8 * U1 (k / 8) + k % 8) (made + 1))) 8 (va_up (aF A1 8) (8 * U1 (k / 8) + k % 8) (aN A1 6)), aP A1, va_up (aG A1) made (aG A1 made ++ [8 * U1 (k / 8) + k % 8])) : AS) 6 j = aF A1 6 j := fun j => rfl
      have f7 : ∀ j, aF ((va_up (aN A1) 6 (aN A1 6 + 1), va_up (va_up (aF A1) 7 (va_up (aF A1 7) (8 * U1 (k / 8) + k % 8) (made + 1))) 8 (va_up (aF A1 8) (8 * U1 (k / 8) + k % 8) (aN A1 6)), aP A1, va_up (aG A1) made (aG A1 made ++ [8 * U1 (k / 8) + k % 8])) : AS) 7 j = va_up (aF A1 7) (8 * U1 (k / 8) + k % 8) (made + 1) j := fun j => rfl
      have f8 : ∀ j, aF ((va_up (aN A1) 6 (aN A1 6 + 1), va_up (va_up (aF A1) 7 (va_up (aF A1 7) (8 * U1 (k / 8) + k % 8) (made + 1))) 8 (va_up (aF A1 8) (8 * U1 (k / 8) + k % 8) (aN A1 6)), aP A1, va_up (aG A1) made (aG A1 made ++ [8 * U1 (k / 8) + k % 8])) : AS) 8 j = va_up (aF A1 8) (8 * U1 (k / 8) + k % 8) (aN A1 6) j := fun j => rfl
      have fG : ∀ j, aG ((va_up (aN A1) 6 (aN A1 6 + 1), va_up (va_up (aF A1) 7 (va_up (aF A1 7) (8 * U1 (k / 8) + k % 8) (made + 1))) 8 (va_up (aF A1 8) (8 * U1 (k / 8) + k % 8) (aN A1 6)), aP A1, va_up (aG A1) made (aG A1 made ++ [8 * U1 (k / 8) + k % 8])) : AS) j = va_up (aG A1) made (aG A1 made ++ [8 * U1 (k / 8) + k % 8]) j := fun j => rfl
      have f2 : aN ((va_up (aN A1) 6 (aN A1 6 + 1), va_up (va_up (aF A1) 7 (va_up (aF A1 7) (8 * U1 (k / 8) + k % 8) (made + 1))) 8 (va_up (aF A1 8) (8 * U1 (k / 8) + k % 8) (aN A1 6)), aP A1, va_up (aG A1) made (aG A1 made ++ [8 * U1 (k / 8) + k % 8])) : AS) 2 = aN A1 2 := rfl
      have f66 : aN ((va_up (aN A1) 6 (aN A1 6 + 1), va_up (va_up (aF A1) 7 (va_up (aF A1 7) (8 * U1 (k / 8) + k % 8) (made + 1))) 8 (va_up (aF A1 8) (8 * U1 (k / 8) + k % 8) (aN A1 6)), aP A1, va_up (aG A1) made (aG A1 made ++ [8 * U1 (k / 8) + k % 8])) : AS) 6 = aN A1 6 + 1 := rfl
      generalize ((va_up (aN A1) 6 (aN A1 6 + 1), va_up (va_up (aF A1) 7 (va_up (aF A1 7) (8 * U1 (k / 8) + k % 8) (made + 1))) 8 (va_up (aF A1 8) (8 * U1 (k / 8) + k % 8) (aN A1 6)), aP A1, va_up (aG A1) made (aG A1 made ++ [8 * U1 (k / 8) + k % 8])) : AS) = A2 at hQ2 hCG2 f6 f7 f8 fG f2 f66
      have hCGa := hCG.tr hCG2
      have eG : aG A2 sheet = aG A sheet := by rw [fG, va_up_ne _ _ hsm, hG1]
      have eGp : aG A2 sheet = (pre ++ [k]) ++ rest := eG.trans hgl'
      have hkey : yL τ2 0 (2432 + k) = kyo (aF A2 8) (pre ++ [k]) := by
        rw [kyo_snoc, f8, va_up_ne _ _ (by omega), m5 _ (by omega) (by omega) (by omega), (hgp k hk0).2, (hgp k hk0).1]
        exact ((hR.2.1 k e4).2.2.2 (by omega)).1
      obtain ⟨x1, x2⟩ := nextG_eq (τ := τ2) hQ2.2.2.2.2.1 hQ2.1.2.2.1.2.1 (s := sheet) (by omega) eGp
      rw [← hkey] at x1 x2
      rw [x1]
      obtain ⟨σ', τ', A', i1, i2, i3, i4, i5, i6, i7⟩ := ih (pre ++ [k]) σ2 τ2 A2 U1 nC nM hQ2 (by rw [hCGa.2.1, hCGa.2.2 3 (by decide)]; exact hlim) (by rw [hCGa.1 0 (by decide) (by decide)]; exact hs) (by rw [hCGa.1 0 (by decide) (by decide)]; exact hm) eGp (by
        refine ⟨by rw [f2]; exact hn2, by rw [fG, va_up_self, List.length_append, hml, hpl]; rfl, fun q hq => ?_, fun q hq => ?_, hinj⟩
        · rw [p1.2.1, hyI]; exact hmk q hq
        · obtain ⟨w1, w2, w3, w4⟩ := hU q hq
          refine ⟨w1, by rw [f2]; exact w2, by rw [f6, f6]; exact w3, fun g hg hne => ?_⟩
          rw [f7] at hne
          by_cases e : 8 * U1 q + g = 8 * U1 (k / 8) + k % 8
          · have eU : U1 q = U1 (k / 8) := by omega
            have eq := hinj q (k / 8) hq hqin eU
            rw [eq, show 8 * (k / 8) + g = k by omega]; simp
          · rw [va_up_ne _ _ e] at hne
            exact List.mem_append_left _ (w4 g hg hne)) (by rw [eG]; exact h30) (by rw [eG]; exact hb) (by omega) (by omega) (by omega)
      rw [eG, hpl] at i1
      refine ⟨σ', τ', A', i1, hsj.tr ((sj_sk p1).tr i2), i3, fun w => ⟨m6, x2, i4 w⟩, fun τ0 hb => i5 τ0 (m1 τ0 (hbg τ0 hb)), i6, hCGa.tr i7⟩
    -- the part
    have vq : vp_in (nI (k / 8)) 30 := vp_in_nI (by omega) (by decide)
    unfold lp_Parts_addPartsLike_17 lp_Mo_copy_241 kl_Mo_copy_241
    have eh : hdI (k :: rest) = nI k := rfl
    have e24 : ((2432 : Int32) + nI k).toNatClampNeg = 2432 + k := clA 2432 (by omega)
    have i24 := inA 2432 (i := k) (by omega)
    rw [eh, if_neg (nI_ge hll (by omega)), if_neg nkm, if_neg nkm, e1, e5, rem8 (k := k) (by omega), div8 (k := k) (by omega), nI_clamp (show k / 8 < 2 ^ 31 by omega), e24, rd_in (j := 6) (show k / 8 < 30 by omega), nI_1 pre.length]
    obtain ⟨mk1, mk2⟩ := T3 (k / 8) (by omega)
    by_cases cf : k / 8 ∈ fdp pre
    · obtain ⟨w1, w2⟩ := mk1 cf
      have ef : fdp (pre ++ [k]) = fdp pre := by rw [fdp_snoc, if_pos cf]
      have nT := T4 (k / 8) cf
      have nt : ¬ nI (T (k / 8)) = -1 := nI_m1 (by omega)
      have e8 : (8 : Int32) * nI (T (k / 8)) + nI (k % 8) = nI (8 * T (k / 8) + k % 8) := by
        show nI 8 * nI (T (k / 8)) + nI (k % 8) = _
        rw [pk_mul, nI_add]
      rw [w1, w2, if_neg nt, if_neg nt, if_neg nt, e8]
      obtain ⟨σ', τ', A', i1, i2, i3, i4, i5, i6, i7⟩ := fin σ τ A T hQ (CG_rfl A) rfl rfl (sj_rfl σ) (fun _ hb => hb) (by rw [ef]; exact T1) (by rw [ef]; exact T3) (by rw [ef]; exact T4) (by rw [ef]; exact T5) rfl (fun _ _ => ⟨rfl, rfl⟩) rfl
      exact ⟨σ', τ', A', i1, i2, i3, fun w => by obtain ⟨u1, u2, u3⟩ := i4 w; exact ⟨vq, vq, u1, i24, u2, u3⟩, i5, i6, i7⟩
    · obtain ⟨w1, w2⟩ := mk2 cf
      have ef : fdp (pre ++ [k]) = fdp pre ++ [k / 8] := by rw [fdp_snoc, if_neg cf]
      have hlt := fdp_lt (r := rest) cf
      rw [← hgl] at hlt
      have m11 : (-1 : Int32) = -1 := rfl
      have e32 : ((2132 : Int32) + nI (k / 8)).toNatClampNeg = 2132 + k / 8 := clA 2132 (by omega)
      have e62 : ((2162 : Int32) + nI (k / 8)).toNatClampNeg = 2162 + k / 8 := clA 2162 (by omega)
      have egc : m_Parts_gateCount σ (nI (k / 8)) = nI (aF A 6 (k / 8)) := by unfold m_Parts_gateCount; rw [at_in (k := 8) (show k / 8 < 30 by omega), z6, lN_i]
      rw [w1, w2, if_pos m11, if_pos m11, if_pos m11, e32, e62, z5, z7, (letter_eq hRR e2).1, egc]
      obtain ⟨m1, m2, m3, m4, m5, m6, m7, m8⟩ := addPart_M (τ := τ) (q := aN A 2) (by omega) hQ.1.2.2.1.2.1 (lN (aF A 5 (k / 8))) (lN (aF A 6 (k / 8)))
      obtain ⟨p1, p2, p3⟩ := addPart_C (σ := σ) (q := aN A 2) (a := aF A 5 (k / 8)) (b := aF A 6 (k / 8)) (by omega) hQ.1.2.2.1.1 (by omega) (by omega)
      have hyI := addPart_yI τ (lN (aF A 5 (k / 8))) (lN (aF A 6 (k / 8)))
      have hQ1 := RQ_addPart hQ (by omega) z1 z2 z3 p3 m3 m4 m5 m6 m7
      generalize m_Mo_addPart τ (lN (aF A 5 (k / 8))) (lN (aF A 6 (k / 8))) = Z at m1 m2 m3 m4 m5 m6 m7 hyI hQ1 ⊢
      generalize m_Parts_addPart σ (nI (aF A 5 (k / 8))) (nI (aF A 6 (k / 8))) = Y at p1 p2 p3 hQ1 ⊢
      rw [m1, p1, wr_in (j := 6) (show k / 8 < 30 by omega), rd_in (j := 6) (show k / 8 < 30 by omega)]
      have eg : m_Parts_gateAt (zI Y.2 6 (k / 8) (nI (aN A 2))) (nI sheet) (nI pre.length) = nI k := by
        rw [← e5]
        unfold m_Parts_gateAt m_Row_at
        have : xL (zI Y.2 6 (k / 8) (nI (aN A 2))) 10 = xL σ 10 := by show xL Y.2 10 = _; rw [p3, sL_row (by decide), sL_row (by decide), sL_row (by decide)]
        rw [this]
      have er : xI (zI Y.2 6 (k / 8) (nI (aN A 2))) 6 (k / 8) = nI (aN A 2) := by rw [xI_zI, if_pos ⟨rfl, rfl⟩]
      have ey : yI (wI Z.2 6 (k / 8) (nI (aN A 2))) 6 (k / 8) = nI (aN A 2) := by rw [yI_wI, if_pos ⟨rfl, rfl⟩]
      have e8 : (8 : Int32) * nI (aN A 2) + nI (k % 8) = nI (8 * aN A 2 + k % 8) := by
        show nI 8 * nI (aN A 2) + nI (k % 8) = _
        rw [pk_mul, nI_add]
      rw [eg, er, ey, rem8 (k := k) (by omega), e8]
      have hCG1 : CG A (va_up (aN A) 2 (aN A 2 + 1), va_up (va_up (aF A) 5 (va_up (aF A 5) (aN A 2) (aF A 5 (k / 8)))) 6 (va_up (aF A 6) (aN A 2) (aF A 6 (k / 8))), A.2.2) :=
        ⟨fun j w1 w2 => va_up_ne _ _ w1, rfl, fun j hj => by
          show va_up (va_up (aF A) 5 _) 6 _ j = _
          rw [va_up_ne _ _ (by omega), va_up_ne _ _ (by omega)]⟩
      have eU : va_up T (k / 8) (aN A 2) (k / 8) = aN A 2 := va_up_self _ _ _
      have fin' := fin (zI Y.2 6 (k / 8) (nI (aN A 2))) (wI Z.2 6 (k / 8) (nI (aN A 2))) (va_up (aN A) 2 (aN A 2 + 1), va_up (va_up (aF A) 5 (va_up (aF A 5) (aN A 2) (aF A 5 (k / 8)))) 6 (va_up (aF A 6) (aN A 2) (aF A 6 (k / 8))), A.2.2) (va_up T (k / 8) (aN A 2)) hQ1 hCG1 rfl rfl ((sj_sk p2).tr (sj_lk (LK_z Y.2 (k / 8) (nI (aN A 2))))) (fun τ0 hb => (m2 τ0 hb).i 6 (k / 8) (nI (aN A 2))) (by
          show aN A 2 + 1 = _
          rw [ef, List.length_append, T1]; rfl) (fun q hq => by
          rw [ef, List.mem_append, List.mem_singleton, xI_zI, yI_wI]
          by_cases e : q = k / 8
          · rw [if_pos ⟨rfl, e⟩, if_pos ⟨rfl, e⟩, e, eU]
            exact ⟨fun _ => ⟨rfl, rfl⟩, fun z => absurd (Or.inr rfl) z⟩
          · rw [if_neg (fun z => e z.2), if_neg (fun z => e z.2), va_up_ne _ _ e, p2.2.1, hyI]
            exact ⟨fun z => (T3 q hq).1 (z.elim id fun w => absurd w e), fun z => (T3 q hq).2 (fun w => z (Or.inl w))⟩) (fun q hq => by
          show nq0 ≤ _ ∧ _ < aN A 2 + 1 ∧ va_up (aF A 6) (aN A 2) (aF A 6 (k / 8)) _ = va_up (aF A 6) (aN A 2) (aF A 6 (k / 8)) _ ∧ _
          have hqn : q ≠ aN A 2 := by
            rw [ef, List.mem_append, List.mem_singleton] at hq
            rcases hq with z | z
            · obtain ⟨k', z1, z2⟩ := (fdp_mem _ _).mp z
              have := hb k' (by rw [hgl]; exact List.mem_append_left _ z1)
              omega
            · omega
          rw [va_up_ne (aF A 6) _ hqn]
          by_cases e : q = k / 8
          · rw [e, eU, va_up_self]
            exact ⟨by omega, by omega, rfl, fun g hg hne => absurd (hR.2.2.1 (8 * aN A 2 + g) (by omega)).1 hne⟩
          · rw [ef, List.mem_append, List.mem_singleton] at hq
            obtain ⟨v1, v2, v3, v4⟩ := T4 q (hq.elim id fun w => absurd w e)
            rw [va_up_ne T _ e, va_up_ne (aF A 6) _ (by omega)]
            exact ⟨v1, by omega, v3, v4⟩) (fun q q' hq hq' hE => by
          rw [ef, List.mem_append, List.mem_singleton] at hq hq'
          by_cases e : q = k / 8
          · by_cases e' : q' = k / 8
            · rw [e, e']
            · rw [e, eU, va_up_ne T _ e'] at hE
              have := (T4 q' (hq'.elim id fun w => absurd w e')).2.1
              omega
          · by_cases e' : q' = k / 8
            · rw [e', eU, va_up_ne T _ e] at hE
              have := (T4 q (hq.elim id fun w => absurd w e)).2.1
              omega
            · rw [va_up_ne T _ e, va_up_ne T _ e'] at hE
              exact T5 q q' (hq.elim id fun w => absurd w e) (hq'.elim id fun w => absurd w e') hE) (by
          show va_up (aF A 6) (aN A 2) (aF A 6 (k / 8)) (k / 8) = _
          rw [va_up_ne _ _ (by omega)]) (fun j hj => ⟨rfl, by
          show yL Z.2 0 (2432 + j) = _
          exact m7 _ (by omega) (by omega) (by omega) (by omega)⟩) (by
          show xL Y.2 10 = _
          rw [p3, sL_row (by decide), sL_row (by decide), sL_row (by decide)])
      rw [eU] at fin'
      obtain ⟨σ', τ', A', i1, i2, i3, i4, i5, i6, i7⟩ := fin'
      exact ⟨σ', τ', A', i1, i2, i3, fun w => by obtain ⟨u1, u2, u3⟩ := i4 w; exact ⟨vq, inA 2132 (by omega), inA 2162 (by omega), m8, vq, vq, u1, i24, u2, u3⟩, i5, i6, i7⟩
