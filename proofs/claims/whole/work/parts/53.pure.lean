section PL
variable {ns np key : Nat} {al pa od cd rk : Nat → Nat} {pl : Nat → List Nat} {N : Nat → Int64} {σ : SC}
theorem parent_al (hR : R2 ns np key al pa od cd rk pl (xL σ 2) (xL σ 3) (xL σ 4) N) {p : Nat} (ha : al p ≠ 0) : m_Sheets_parentOf σ (nI p) = nI (pa p) := by
  have hp : p < 60 := Nat.lt_of_not_le fun z => ha (hR.2.2.2.2.1 p z)
  unfold m_Sheets_parentOf; rw [at_in (by exact hp), (hR.1 p hp ha).2.2.2.2.2.2.2.2.1, lN_i]
theorem parent_de (hR : R2 ns np key al pa od cd rk pl (xL σ 2) (xL σ 3) (xL σ 4) N) {p : Nat} (hp : p < 60) (ha : al p = 0) : m_Sheets_parentOf σ (nI p) = -1 := by
  unfold m_Sheets_parentOf; rw [at_in (by exact hp), (hR.2.1 p hp ha).1, m1_32]
theorem sheetOf_al (hR : R2 ns np key al pa od cd rk pl (xL σ 2) (xL σ 3) (xL σ 4) N) {p : Nat} (ha : al p ≠ 0) : m_Sheets_sheetOf σ (nI p) = nI (cd p) := by
  have hp : p < 60 := Nat.lt_of_not_le fun z => ha (hR.2.2.2.2.1 p z)
  unfold m_Sheets_sheetOf; rw [at_in (by exact hp), (hR.1 p hp ha).2.2.2.2.2.2.2.2.2, lN_i]
theorem isPl_al (hR : R2 ns np key al pa od cd rk pl (xL σ 2) (xL σ 3) (xL σ 4) N) {p : Nat} (ha : al p ≠ 0) : m_Sheets_isPlacement σ (nI p) = true := by
  have hp : p < 60 := Nat.lt_of_not_le fun z => ha (hR.2.2.2.2.1 p z)
  have := (hR.1 p hp ha).2.1
  have := hR.2.2.2.2.2.1
  unfold m_Sheets_isPlacement; rw [parent_al hR ha, if_neg (nI_m1 (by omega))]
theorem isPl_de (hR : R2 ns np key al pa od cd rk pl (xL σ 2) (xL σ 3) (xL σ 4) N) {p : Nat} (hp : p < 60) (ha : al p = 0) : m_Sheets_isPlacement σ (nI p) = false := by
  unfold m_Sheets_isPlacement; rw [parent_de hR hp ha, if_pos rfl]
theorem withPl (hR : R2 ns np key al pa od cd rk pl (xL σ 2) (xL σ 3) (xL σ 4) N) (v1 : Int32) : ∀ (m i : Nat) (x : Int32), i + m = 60 → lp_Sheets_withPlacedOn_4 (m + 1) σ v1 x (nI i) = rnd al pa cd m i x
  | 0, i, x, h => by
    unfold lp_Sheets_withPlacedOn_4
    rw [if_pos (show (60 : Int32) ≤ nI i from nI_le (a := 60) (by omega) (by omega))]
    rfl
  | m + 1, i, x, h => by
    unfold lp_Sheets_withPlacedOn_4
    rw [if_neg (show ¬ (60 : Int32) ≤ nI i from nI_ge (b := 60) (by omega) (by omega)), nI_1]
    show _ = rnd al pa cd m (i + 1) _
    by_cases ha : al i = 0
    · rw [isPl_de hR (by omega) ha, if_pos (by rfl), withPl hR v1 m (i + 1) x (by omega), if_neg (fun z => z.1 ha)]
    · have h1 := (hR.1 i (by omega) ha).2.1
      have h2 := hR.2.2.2.2.2.1
      rw [isPl_al hR ha, if_neg (by decide), parent_al hR ha, sheetOf_al hR ha]
      by_cases hb : tb x (pa i) = true
      · rw [if_neg (fun z => by rw [tb_and (by omega)] at z; rw [z] at hb; exact absurd hb (by decide)), withPl hR v1 m (i + 1) _ (by omega), if_pos ⟨ha, hb⟩]
      · rw [if_pos ((tb_and (by omega)).mpr (by simpa using hb)), withPl hR v1 m (i + 1) _ (by omega), if_neg (fun z => hb z.2)]
theorem cd_lt (hR : R2 ns np key al pa od cd rk pl (xL σ 2) (xL σ 3) (xL σ 4) N) : ∀ p, al p ≠ 0 → cd p < 24 := fun p ha => by
  have hp : p < 60 := Nat.lt_of_not_le fun z => ha (hR.2.2.2.2.1 p z)
  have := (hR.1 p hp ha).2.2.1
  have := hR.2.2.2.2.2.1
  omega
/-- what lies in a sheet, as a set of bits -/
def clo (al pa cd : Nat → Nat) (s : Nat) : Int32 := itr (rnd al pa cd 60 0) 24 (1 <<< (nI s &&& 31))
theorem cb_one {s : Nat} (hs : s < 24) : 0 < cb (1 <<< (nI s &&& 31)) := by
  unfold cb
  rw [List.countP_pos_iff]
  exact ⟨s, by simpa using hs, by rw [tb_one (by omega)]; simp⟩
theorem one_ne {s : Nat} (hs : s < 24) : ¬ (1 : Int32) <<< (nI s &&& 31) = 0 := fun e => by
  have := cb_one hs
  rw [e] at this
  exact absurd this (by decide +kernel)
theorem clo_stab (hc : ∀ p, al p ≠ 0 → cd p < 24) {s : Nat} (hs : s < 24) : ∀ k, 23 ≤ k → itr (rnd al pa cd 60 0) k (1 <<< (nI s &&& 31)) = clo al pa cd s := by
  have h := itr_stab (f := rnd al pa cd 60 0) (fun x j => rnd_mono j 60 0 x) (fun x j hj => rnd_hi (by omega) hc j hj 60 0 x) (cb_one hs)
  intro k hk
  have h1 := itr_fix h (k - 23)
  have h2 := itr_fix h 1
  rw [show 23 + (k - 23) = k by omega] at h1
  unfold clo
  rw [h1]
  exact h2.symm
theorem clo_closed (hc : ∀ p, al p ≠ 0 → cd p < 24) {s : Nat} (hs : s < 24) {q : Nat} (hq : q < 60) (ha : al q ≠ 0) (h : tb (clo al pa cd s) (pa q) = true) : tb (clo al pa cd s) (cd q) = true := by
  refine rnd_closed (by omega) hc 60 0 _ (fun j hj => ?_) q (Nat.zero_le _) (by omega) ha h
  have h2 := clo_stab (pa := pa) hc hs 25 (by omega)
  have : rnd al pa cd 60 0 (clo al pa cd s) = clo al pa cd s := h2
  rw [this] at hj; exact hj
theorem itr_bit {f : Int32 → Int32} (hm : ∀ x j, tb x j = true → tb (f x) j = true) {x : Int32} {j : Nat} (h : tb x j = true) : ∀ n, tb (itr f n x) j = true
  | 0 => h
  | n + 1 => hm _ j (itr_bit hm h n)
theorem clo_self {s : Nat} (hs : s < 24) : tb (clo al pa cd s) s = true :=
  itr_bit (fun x j => rnd_mono j 60 0 x) (by rw [tb_one (by omega)]; simp) 24
theorem holds_loop (hR : R2 ns np key al pa od cd rk pl (xL σ 2) (xL σ 3) (xL σ 4) N) {s o : Nat} (hs : s < 24) (ho : o < 24) (v1 : Int32) : ∀ (m i : Nat), i + m = 24 → ∀ (v4 : Int32), (0 < i → ∃ j, i = j + 1 ∧ v4 = itr (rnd al pa cd 60 0) j (1 <<< (nI s &&& 31))) → (i = 0 → v4 = 0) →
    lp_Sheets_holds_10 (m + 1) σ v1 (nI o) (itr (rnd al pa cd 60 0) i (1 <<< (nI s &&& 31))) v4 (nI i) = tb (clo al pa cd s) o := by
  have hc := cd_lt hR
  have fin : ∀ x : Int32, x = clo al pa cd s → (if (x &&& (1 <<< (nI o &&& 31))) = 0 then false else true) = tb (clo al pa cd s) o := by
    intro x e
    subst e
    exact holds_tb (by omega)
  intro m
  induction m with
  | zero =>
    intro i h v4 h1 h2
    unfold lp_Sheets_holds_10
    rw [if_pos (show (24 : Int32) ≤ nI i from nI_le (a := 24) (by omega) (by omega))]
    exact fin _ (clo_stab hc hs i (by omega))
  | succ m ih =>
    intro i h v4 h1 h2
    unfold lp_Sheets_holds_10
    rw [if_neg (show ¬ (24 : Int32) ≤ nI i from nI_ge (b := 24) (by omega) (by omega)), nI_1]
    by_cases e : itr (rnd al pa cd 60 0) i (1 <<< (nI s &&& 31)) = v4
    · rw [if_pos e]
      apply fin
      by_cases z : i = 0
      · subst z
        rw [h2 rfl] at e
        exact absurd e (one_ne hs)
      · obtain ⟨j, hj, e4⟩ := h1 (by omega)
        subst hj
        have h3 := itr_fix (f := rnd al pa cd 60 0) (x := 1 <<< (nI s &&& 31)) (k := j) (e.trans e4) (23 - j)
        rw [show j + (23 - j) = 23 by omega, clo_stab hc hs 23 (by omega)] at h3
        rw [e, e4, h3]
    · rw [if_neg e]
      have hw : m_Sheets_withPlacedOn σ (itr (rnd al pa cd 60 0) i (1 <<< (nI s &&& 31))) = itr (rnd al pa cd 60 0) (i + 1) (1 <<< (nI s &&& 31)) := withPl hR _ 60 0 _ rfl
      rw [hw]
      exact ih (i + 1) (by omega) _ (fun _ => ⟨i, rfl, rfl⟩) (fun z => by omega)
theorem holds_eq (hR : R2 ns np key al pa od cd rk pl (xL σ 2) (xL σ 3) (xL σ 4) N) {s o : Nat} (hs : s < 24) (ho : o < 24) : m_Sheets_holds σ (nI s) (nI o) = tb (clo al pa cd s) o :=
  holds_loop hR hs ho _ 24 0 rfl 0 (fun z => by omega) (fun _ => rfl)
end PL
