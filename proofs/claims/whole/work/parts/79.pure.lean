/-! ===== names ===== -/
def poN (ps : List Pg) (g u : Nat) : Nat → Nat → Nat
  | 0, i => i
  | m + 1, i => if shp ps i = g ∧ cmg ps g i = u then i else poN ps g u m (i + 1)
/-- the page where a sheet comes the u-th time, or how many pages there are -/
def po (ps : List Pg) (g u : Nat) : Nat := poN ps g u ps.length 0
theorem poN_spec {ps : List Pg} {g u : Nat} : ∀ (m i : Nat), i ≤ poN ps g u m i ∧ poN ps g u m i ≤ i + m ∧ (poN ps g u m i < i + m → shp ps (poN ps g u m i) = g ∧ cmg ps g (poN ps g u m i) = u) ∧ ∀ i', i ≤ i' → i' < poN ps g u m i → ¬ (shp ps i' = g ∧ cmg ps g i' = u)
  | 0, i => ⟨Nat.le_refl _, Nat.le_refl _, fun h => absurd h (Nat.lt_irrefl _), fun i' h1 h2 => by
      have : poN ps g u 0 i = i := rfl
      omega⟩
  | m + 1, i => by
    show i ≤ (if shp ps i = g ∧ cmg ps g i = u then i else poN ps g u m (i + 1)) ∧ _
    by_cases c : shp ps i = g ∧ cmg ps g i = u
    · have e : poN ps g u (m + 1) i = i := if_pos c
      rw [e, if_pos c]
      exact ⟨Nat.le_refl _, by omega, fun _ => c, fun i' h1 h2 => by omega⟩
    · have e : poN ps g u (m + 1) i = poN ps g u m (i + 1) := if_neg c
      rw [e, if_neg c]
      obtain ⟨h1, h2, h3, h4⟩ := poN_spec (ps := ps) (g := g) (u := u) m (i + 1)
      refine ⟨by omega, by omega, fun h => h3 (by omega), fun i' w1 w2 => ?_⟩
      by_cases z : i' = i
      · rw [z]; exact c
      · exact h4 i' (by omega) w2
theorem pof_po {ps : List Pg} {g u : Nat} : ∀ (m i : Nat), pof ps g u m i = if poN ps g u m i < i + m then nI (poN ps g u m i) else -1
  | 0, i => by
    have : poN ps g u 0 i = i := rfl
    rw [this, if_neg (by omega)]; rfl
  | m + 1, i => by
    show (if shp ps i = g ∧ cmg ps g i = u then nI i else pof ps g u m (i + 1)) = _
    by_cases c : shp ps i = g ∧ cmg ps g i = u
    · have e : poN ps g u (m + 1) i = i := if_pos c
      rw [e, if_pos c, if_pos (by omega)]
    · have e : poN ps g u (m + 1) i = poN ps g u m (i + 1) := if_neg c
      rw [e, if_neg c, pof_po m (i + 1), show i + 1 + m = i + (m + 1) by omega]
theorem pgo_po (ps : List Pg) (g u : Nat) : pgo ps g u = if po ps g u < ps.length then nI (po ps g u) else -1 := by
  unfold pgo po
  rw [pof_po, Nat.zero_add]
theorem po_le (ps : List Pg) (g u : Nat) : po ps g u ≤ ps.length := by
  have := (poN_spec (ps := ps) (g := g) (u := u) ps.length 0).2.1
  unfold po; omega
theorem po_at {ps : List Pg} {g u : Nat} (h : po ps g u < ps.length) : shp ps (po ps g u) = g ∧ cmg ps g (po ps g u) = u :=
  (poN_spec (ps := ps) (g := g) (u := u) ps.length 0).2.2.1 (by unfold po at h; omega)
theorem shp_0 {ps : List Pg} {i : Nat} (h : i < ps.length) : shp ps i ≠ 0 := by
  obtain ⟨s, a, b, d, hg⟩ := get4 h
  rw [shp_some hg]; omega
theorem cmg_step {ps : List Pg} {g i : Nat} (h : i < ps.length) : cmg ps g (i + 1) = cmg ps g i + if shp ps i = g then 1 else 0 := by
  obtain ⟨s, a, b, d, hg⟩ := get4 h
  rw [cmg_succ hg, shp_some hg]
  by_cases e : g = s + 1
  · rw [if_pos e, if_pos e.symm]
  · rw [if_neg e, if_neg (fun z => e z.symm)]
theorem cmg_mono {ps : List Pg} {g : Nat} : ∀ (n i : Nat), i + n ≤ ps.length → cmg ps g i ≤ cmg ps g (i + n)
  | 0, _, _ => Nat.le_refl _
  | n + 1, i, h => by
    have h1 := cmg_mono (ps := ps) (g := g) n i (by omega)
    have h2 := cmg_step (ps := ps) (g := g) (i := i + n) (by omega)
    rw [show i + n + 1 = i + (n + 1) by omega] at h2
    omega
theorem po_eq {ps : List Pg} {g u i : Nat} (hi : i < ps.length) (h1 : shp ps i = g) (h2 : cmg ps g i = u) : po ps g u = i := by
  have h4 := (poN_spec (ps := ps) (g := g) (u := u) ps.length 0).2.2.2 i (Nat.zero_le _)
  have hle : po ps g u ≤ i := Nat.le_of_not_lt fun z => h4 z ⟨h1, h2⟩
  rcases Nat.lt_or_eq_of_le hle with z | z
  · obtain ⟨g1, g2⟩ := po_at (ps := ps) (g := g) (u := u) (by omega)
    have s1 := cmg_step (ps := ps) (g := g) (i := po ps g u) (by omega)
    rw [if_pos g1] at s1
    have s2 := cmg_mono (ps := ps) (g := g) (i - (po ps g u + 1)) (po ps g u + 1) (by omega)
    rw [show po ps g u + 1 + (i - (po ps g u + 1)) = i by omega] at s2
    omega
  · exact z
theorem occ {ps : List Pg} {g u : Nat} : ∀ (i : Nat), i ≤ ps.length → u < cmg ps g i → ∃ i', i' < i ∧ shp ps i' = g ∧ cmg ps g i' = u
  | 0, _, h => by
    have : cmg ps g 0 = 0 := by unfold cmg; simp
    omega
  | i + 1, hi, h => by
    have hs := cmg_step (ps := ps) (g := g) (i := i) (by omega)
    by_cases c : u < cmg ps g i
    · obtain ⟨i', h1, h2⟩ := occ i (by omega) c
      exact ⟨i', by omega, h2⟩
    · by_cases e : shp ps i = g
      · rw [if_pos e] at hs
        exact ⟨i, by omega, e, by omega⟩
      · rw [if_neg e] at hs; omega
theorem po_mono {ps : List Pg} {g u : Nat} (h : po ps g (u + 1) < ps.length) : po ps g u < po ps g (u + 1) := by
  obtain ⟨h1, h2⟩ := po_at h
  obtain ⟨i', w1, w2, w3⟩ := occ (ps := ps) (g := g) (u := u) (po ps g (u + 1)) (by omega) (by omega)
  rw [po_eq (by omega) w2 w3]; exact w1
theorem uc_cmg (ps : List Pg) (g : Nat) : uc ps g = cmg ps g ps.length := by
  unfold uc cmg; rw [List.take_length]
theorem po_uc {ps : List Pg} {g u : Nat} (h : u < uc ps g) : po ps g u < ps.length := by
  rw [uc_cmg] at h
  obtain ⟨i', w1, w2, w3⟩ := occ (ps := ps) (g := g) (u := u) ps.length (Nat.le_refl _) h
  rw [po_eq w1 w2 w3]; exact w1
theorem uc_po {ps : List Pg} {g u : Nat} (h : po ps g u < ps.length) : u < uc ps g := by
  obtain ⟨h1, h2⟩ := po_at h
  rw [uc_cmg]
  have s1 := cmg_step (ps := ps) (g := g) (i := po ps g u) h
  rw [if_pos h1] at s1
  have s2 := cmg_mono (ps := ps) (g := g) (ps.length - (po ps g u + 1)) (po ps g u + 1) (by omega)
  rw [show po ps g u + 1 + (ps.length - (po ps g u + 1)) = ps.length by omega] at s2
  omega
/-- unit u of part q has come before page i, place P -/
def Fb (gc gs gp : Nat → Nat) (ps : List Pg) (q u i P : Nat) : Prop := ∃ g, g < gc q ∧ (po ps (gs (8 * q + g)) u < i ∨ (po ps (gs (8 * q + g)) u = i ∧ gp (8 * q + g) < P))
theorem Fb_dn {gc gs gp : Nat → Nat} {ps : List Pg} {q u i P : Nat} (hi : i < ps.length) (h : Fb gc gs gp ps q (u + 1) i P) : Fb gc gs gp ps q u i P := by
  obtain ⟨g, h1, h2⟩ := h
  have : po ps (gs (8 * q + g)) (u + 1) < ps.length := by omega
  have := po_mono this
  exact ⟨g, h1, Or.inl (by omega)⟩
theorem Fb_dn' {gc gs gp : Nat → Nat} {ps : List Pg} {q i P : Nat} (hi : i < ps.length) {v : Nat} : ∀ {u : Nat}, u ≤ v → Fb gc gs gp ps q v i P → Fb gc gs gp ps q u i P := by
  induction v with
  | zero => intro u hu h; have : u = 0 := by omega
            subst this; exact h
  | succ v ih =>
    intro u hu h
    by_cases e : u = v + 1
    · subst e; exact h
    · exact ih (by omega) (Fb_dn hi h)
/-- how many units of q have come -/
def mk (gc gs gp : Nat → Nat) (ps : List Pg) (q i P m : Nat) : Prop := (∀ u, u < m → Fb gc gs gp ps q u i P) ∧ ¬ Fb gc gs gp ps q m i P
theorem mk_iff {gc gs gp : Nat → Nat} {ps : List Pg} {q i P m : Nat} (hi : i < ps.length) (h : mk gc gs gp ps q i P m) (u : Nat) : Fb gc gs gp ps q u i P ↔ u < m :=
  ⟨fun z => Nat.lt_of_not_le fun w => h.2 (Fb_dn' hi w z), h.1 u⟩
/-- sums over the parts of a letter -/
def sm (lt : Nat → Nat) (l0 : Nat) (f : Nat → Nat) : Nat → Nat
  | 0 => 0
  | n + 1 => sm lt l0 f n + if lt n = l0 then f n else 0
theorem sm_cg {lt : Nat → Nat} {l0 : Nat} {f f' : Nat → Nat} : ∀ (n : Nat), (∀ q, q < n → lt q = l0 → f q = f' q) → sm lt l0 f n = sm lt l0 f' n
  | 0, _ => rfl
  | n + 1, h => by
    show sm lt l0 f n + _ = sm lt l0 f' n + _
    rw [sm_cg n fun q hq => h q (by omega)]
    by_cases e : lt n = l0
    · rw [if_pos e, if_pos e, h n (by omega) e]
    · rw [if_neg e, if_neg e]
theorem sm_up {lt : Nat → Nat} {l0 : Nat} {f : Nat → Nat} {q : Nat} (hl : lt q = l0) : ∀ (n : Nat), q < n → sm lt l0 (va_up f q (f q + 1)) n = sm lt l0 f n + 1
  | 0, h => by omega
  | n + 1, h => by
    show sm lt l0 (va_up f q (f q + 1)) n + (if lt n = l0 then va_up f q (f q + 1) n else 0) = sm lt l0 f n + (if lt n = l0 then f n else 0) + 1
    by_cases e : q = n
    · subst e
      rw [if_pos hl, if_pos hl, va_up_self, sm_cg q (f' := f) fun r hr _ => va_up_ne _ _ (by omega)]; omega
    · rw [sm_up hl n (by omega), va_up_ne _ _ (show n ≠ q by omega)]; omega
theorem sm_add {lt : Nat → Nat} {l0 : Nat} {f g : Nat → Nat} : ∀ (n : Nat), (∀ q, q < n → lt q = l0 → f q ≤ g q) → sm lt l0 f n + sm lt l0 (fun q => g q - f q) n = sm lt l0 g n
  | 0, _ => rfl
  | n + 1, h => by
    show sm lt l0 f n + (if lt n = l0 then f n else 0) + (sm lt l0 (fun q => g q - f q) n + (if lt n = l0 then g n - f n else 0)) = sm lt l0 g n + (if lt n = l0 then g n else 0)
    have h1 := sm_add n fun q hq => h q (by omega)
    by_cases e : lt n = l0
    · have := h n (by omega) e
      rw [if_pos e, if_pos e, if_pos e]; omega
    · rw [if_neg e, if_neg e, if_neg e]; omega
theorem sm_le {lt : Nat → Nat} {l0 b : Nat} {f : Nat → Nat} : ∀ (n : Nat), (∀ q, q < n → lt q = l0 → f q ≤ b) → sm lt l0 f n ≤ n * b
  | 0, _ => by show 0 ≤ _; omega
  | n + 1, h => by
    show sm lt l0 f n + _ ≤ (n + 1) * b
    have h1 := sm_le n fun q hq => h q (by omega)
    rw [Nat.succ_mul]
    by_cases e : lt n = l0
    · have := h n (by omega) e
      rw [if_pos e]; omega
    · rw [if_neg e]; omega
section NU
variable {c : Nat} {A : AS} {σ : SC} {τ : SM} {ps : List Pg}
/-- the marks of the parts of a letter are right at page i, place P -/
def MI (A : AS) (ps : List Pg) (l0 i P : Nat) (m : Nat → Nat) : Prop := ∀ q, q < aN A 2 → aF A 5 q = l0 → mk (aF A 6) (aF A 7) (aF A 8) ps q i P (m q)
def MK (σ : SC) (m : Nat → Nat) : Prop := ∀ q, q < 30 → xI σ 6 q = nI (m q)
/-- only marks differ -/
def LK (σ σ' : SC) : Prop := xL σ' = xL σ ∧ xo σ' = xo σ ∧ xa σ' = xa σ ∧ xn σ' = xn σ ∧ ∀ j, j ≠ 6 → xI σ' j = xI σ j
theorem LK_rfl (σ : SC) : LK σ σ := ⟨rfl, rfl, rfl, rfl, fun _ _ => rfl⟩
theorem LK.tr {a b c : SC} (h : LK a b) (g : LK b c) : LK a c := ⟨g.1.trans h.1, g.2.1.trans h.2.1, g.2.2.1.trans h.2.2.1, g.2.2.2.1.trans h.2.2.2.1, fun j hj => (g.2.2.2.2 j hj).trans (h.2.2.2.2 j hj)⟩
theorem LK_z (σ : SC) (i : Nat) (v : Int32) : LK σ (zI σ 6 i v) := ⟨rfl, rfl, rfl, rfl, fun j hj => by funext k; rw [xI_zI, if_neg (fun z => hj z.1)]⟩
theorem BK.lk {σ σ' : SC} {ps : List Pg} (h : BK σ ps) (hs : LK σ σ') : BK σ' ps := by
  unfold BK at h ⊢
  rw [hs.2.2.2.1, hs.2.2.2.2 0 (by decide), hs.2.2.2.2 1 (by decide), hs.2.2.2.2 2 (by decide), hs.2.2.2.2 3 (by decide), hs.2.2.2.2 4 (by decide), hs.2.2.2.2 5 (by decide)]
  exact h
/-- a gate on page i moves the marks on -/
theorem Fb_step (h : RR c A (xL σ) (yL τ 0)) {i s k : Nat} (hi : i < ps.length) (hsh : shp ps i = s + 1) (hs : s < 24) (hk : k ∈ aG A s) (q u : Nat) : Fb (aF A 6) (aF A 7) (aF A 8) ps q u i (aF A 8 k + 1) ↔ (Fb (aF A 6) (aF A 7) (aF A 8) ps q u i (aF A 8 k) ∨ (q = k / 8 ∧ u = cmg ps (s + 1) i)) := by
  have hR := h.2.2.2.2.1
  obtain ⟨-, -, -, hmem, hsort⟩ := hR.2.2.2.1 s hs
  have hgk := (hmem k).mp hk
  have hk8 := gs_lt hR (k := k) (by omega)
  have hkg := ((hR.2.1 k hk8).2.2.2 (by omega)).2.2
  constructor
  · rintro ⟨g, h1, h2⟩
    by_cases z : po ps (aF A 7 (8 * q + g)) u < i ∨ (po ps (aF A 7 (8 * q + g)) u = i ∧ aF A 8 (8 * q + g) < aF A 8 k)
    · exact Or.inl ⟨g, h1, z⟩
    · right
      have e1 : po ps (aF A 7 (8 * q + g)) u = i := by omega
      have e2 : aF A 8 (8 * q + g) = aF A 8 k := by omega
      obtain ⟨y1, y2⟩ := po_at (ps := ps) (g := aF A 7 (8 * q + g)) (u := u) (by omega)
      rw [e1, hsh] at y1
      rw [e1] at y2
      have hin := (hmem (8 * q + g)).mpr y1.symm
      have hg8 : g < 8 := by
        rcases Nat.lt_or_ge q (aN A 2) with w | w
        · have := (hR.1 q w).2.2.1; omega
        · have := (hR.2.2.1 (8 * q + g) (by omega)).1; omega
      have e3 : 8 * q + g = k := by
        refine Classical.byContradiction fun ne => ?_
        have hd := List.pairwise_iff_getElem.mp hsort
        obtain ⟨a, ha, ea⟩ := List.getElem_of_mem hin
        obtain ⟨b, hb, eb⟩ := List.getElem_of_mem hk
        rcases Nat.lt_trichotomy a b with w | w | w
        · have := hd a b ha hb w
          rw [ea, eb] at this; omega
        · subst w; exact ne (ea.symm.trans eb)
        · have := hd b a hb ha w
          rw [ea, eb] at this; omega
      refine ⟨by omega, ?_⟩
      rw [← y1] at y2; exact y2.symm
  · rintro (⟨g, h1, h2⟩ | ⟨rfl, rfl⟩)
    · exact ⟨g, h1, by omega⟩
    · refine ⟨k % 8, hkg, ?_⟩
      rw [show 8 * (k / 8) + k % 8 = k by omega, hgk]
      right
      exact ⟨po_eq hi hsh rfl, by omega⟩
/-- no gate between: the marks stay -/
theorem Fb_gap (h : RR c A (xL σ) (yL τ 0)) {i s : Nat} (hi : i < ps.length) (hsh : shp ps i = s + 1) (hs : s < 24) {P P' : Nat} (hP : P ≤ P') (hgap : ∀ k ∈ aG A s, aF A 8 k < P ∨ P' ≤ aF A 8 k) (q u : Nat) : Fb (aF A 6) (aF A 7) (aF A 8) ps q u i P' ↔ Fb (aF A 6) (aF A 7) (aF A 8) ps q u i P := by
  have hR := h.2.2.2.2.1
  obtain ⟨-, -, -, hmem, -⟩ := hR.2.2.2.1 s hs
  constructor
  · rintro ⟨g, h1, h2⟩
    refine ⟨g, h1, ?_⟩
    rcases h2 with z | ⟨z1, z2⟩
    · exact Or.inl z
    · obtain ⟨y1, y2⟩ := po_at (ps := ps) (g := aF A 7 (8 * q + g)) (u := u) (by omega)
      rw [z1, hsh] at y1
      rcases hgap _ ((hmem (8 * q + g)).mpr y1.symm) with w | w
      · exact Or.inr ⟨z1, w⟩
      · omega
  · rintro ⟨g, h1, h2⟩
    exact ⟨g, h1, by omega⟩
theorem MI.gap (h : RR c A (xL σ) (yL τ 0)) {i s : Nat} (hi : i < ps.length) (hsh : shp ps i = s + 1) (hs : s < 24) {P P' : Nat} (hP : P ≤ P') (hgap : ∀ k ∈ aG A s, aF A 8 k < P ∨ P' ≤ aF A 8 k) {l0 : Nat} {m : Nat → Nat} (hm : MI A ps l0 i P m) : MI A ps l0 i P' m := fun q hq hl => by
  obtain ⟨w1, w2⟩ := hm q hq hl
  exact ⟨fun u hu => (Fb_gap h hi hsh hs hP hgap q u).mpr (w1 u hu), fun z => w2 ((Fb_gap h hi hsh hs hP hgap q (m q)).mp z)⟩
/-- one gate -/
theorem MI_step (h : RR c A (xL σ) (yL τ 0)) {i s k : Nat} (hi : i < ps.length) (hsh : shp ps i = s + 1) (hs : s < 24) (hk : k ∈ aG A s) {l0 : Nat} {m : Nat → Nat} (hm : MI A ps l0 i (aF A 8 k) m) : MI A ps l0 i (aF A 8 k + 1) (if aF A 5 (k / 8) = l0 ∧ m (k / 8) = cmg ps (s + 1) i then va_up m (k / 8) (m (k / 8) + 1) else m) := by
  intro q hq hl
  have hst := Fb_step h hi hsh hs hk
  obtain ⟨w1, w2⟩ := hm q hq hl
  by_cases cc : aF A 5 (k / 8) = l0 ∧ m (k / 8) = cmg ps (s + 1) i
  · rw [if_pos cc]
    by_cases e : q = k / 8
    · subst e
      rw [va_up_self]
      refine ⟨fun u hu => ?_, fun z => ?_⟩
      · rw [hst]
        by_cases y : u = m (k / 8)
        · right; exact ⟨rfl, y.trans cc.2⟩
        · left; exact w1 u (by omega)
      · rw [hst] at z
        rcases z with z | ⟨-, z⟩
        · exact w2 (Fb_dn hi z)
        · omega
    · rw [va_up_ne _ _ e]
      refine ⟨fun u hu => by rw [hst]; exact Or.inl (w1 u hu), fun z => ?_⟩
      rw [hst] at z
      rcases z with z | ⟨z, -⟩
      · exact w2 z
      · exact e z
  · rw [if_neg cc]
    refine ⟨fun u hu => by rw [hst]; exact Or.inl (w1 u hu), fun z => ?_⟩
    have z' := z
    rw [hst] at z
    rcases z with z | ⟨z1, z2⟩
    · exact w2 z
    · subst z1; exact cc ⟨hl, z2⟩
end NU
