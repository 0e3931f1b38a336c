/-! ===== chains ===== -/
def lastc : Nat → List Nat → Nat
  | c, [] => c
  | _, a :: t => lastc a t
theorem lastc_mem : ∀ (c : Nat) (l : List Nat), lastc c l ∈ c :: l
  | c, [] => by simp [lastc]
  | c, a :: t => by
    show lastc a t ∈ _
    exact List.mem_cons_of_mem _ (lastc_mem a t)
theorem chn_cg {F F' : Nat → Int64} : ∀ {l : List Nat} {c : Nat}, (∀ a ∈ c :: l, F' a = F a) → chn F c l → chn F' c l
  | [], c, h, hc => by show F' c = -1; rw [h c (by simp)]; exact hc
  | p :: t, c, h, hc => ⟨by rw [h c (by simp)]; exact hc.1, hc.2.1, chn_cg (fun a ha => h a (List.mem_cons_of_mem _ ha)) hc.2.2⟩
theorem chn_app {F : Nat → Int64} {p : Nat} (hp : p < 60) (h1 : F p = -1) : ∀ {l : List Nat} {c : Nat}, (c :: l).Nodup → p ∉ c :: l → chn F c l → chn (vp_updL F (lastc c l) (lN p)) c (l ++ [p])
  | [], c, _, hn, _ => by
    refine ⟨pk_uLs, hp, ?_⟩
    show vp_updL F c (lN p) p = -1
    rw [vu (by intro e; exact hn (by rw [e]; simp))]; exact h1
  | a :: t, c, hd, hn, hc => by
    have hca : c ≠ lastc a t := fun e => (List.nodup_cons.mp hd).1 (e ▸ lastc_mem a t)
    refine ⟨by show vp_updL F (lastc a t) (lN p) c = _; rw [vu hca]; exact hc.1, hc.2.1, ?_⟩
    exact chn_app hp h1 (List.nodup_cons.mp hd).2 (fun z => hn (List.mem_cons_of_mem _ z)) hc.2.2
theorem chn_unl {F : Nat → Int64} {p : Nat} {r : List Nat} : ∀ {x : List Nat} {c : Nat}, (c :: (x ++ p :: r)).Nodup → chn F c (x ++ p :: r) → chn (vp_updL (vp_updL F (lastc c x) (F p)) p (-1)) c (x ++ r)
  | [], c, hd, hc => by
    have hcp : c ≠ p := fun e => (List.nodup_cons.mp hd).1 (by rw [e]; simp)
    have hpr : chn F p r := hc.2.2
    have hd2 := (List.nodup_cons.mp hd)
    have hd3 := List.nodup_cons.mp (show (p :: r).Nodup from hd2.2)
    cases r with
    | nil =>
      show vp_updL (vp_updL F c (F p)) p (-1) c = -1
      rw [vu hcp, pk_uLs]; exact hpr
    | cons b t =>
      refine ⟨?_, hpr.2.1, ?_⟩
      · show vp_updL (vp_updL F c (F p)) p (-1) c = _
        rw [vu hcp, pk_uLs]; exact hpr.1
      · refine chn_cg (fun a ha => ?_) hpr.2.2
        have ha1 : a ≠ p := fun e => hd3.1 (e ▸ ha)
        have ha2 : a ≠ c := fun e => hd2.1 (by rw [← e]; exact List.mem_cons_of_mem _ ha)
        show vp_updL (vp_updL F c (F p)) p (-1) a = _
        rw [vu ha1, vu ha2]
  | a :: t, c, hd, hc => by
    have hd2 := List.nodup_cons.mp hd
    have hca : c ≠ lastc a t := fun e => hd2.1 (by
      have := lastc_mem a t
      rw [← e] at this
      rcases List.mem_cons.mp this with z | z
      · rw [z]; simp
      · simp [z])
    have hcp : c ≠ p := fun e => hd2.1 (by rw [e]; simp)
    refine ⟨?_, hc.2.1, chn_unl hd2.2 hc.2.2⟩
    show vp_updL (vp_updL F (lastc a t) (F p)) p (-1) c = _
    rw [vu hcp, vu hca]; exact hc.1
/-- the cell before -/
theorem cellB {σ : SC} (v1 : Int32) {rest : List Nat} : ∀ (x : List Nat) (c i : Nat), c < 84 → chn (xL σ 4) c (x ++ rest) → (∀ a ∈ x, nI a ≠ hdI rest) → i + x.length ≤ 60 → lp_Sheets_cellBefore_9 (61 - i) σ v1 (hdI rest) (nI c) (nI i) = nI (lastc c x)
  | [], c, i, hcl, hc, _, hi => by
    obtain ⟨m, hm⟩ : ∃ m, 61 - i = m + 1 := ⟨60 - i, by simp at hi; omega⟩
    rw [hm]
    unfold lp_Sheets_cellBefore_9
    by_cases z : 60 ≤ i
    · rw [if_pos (show (60 : Int32) ≤ nI i from nI_le (a := 60) z (by simp at hi; omega))]; rfl
    · rw [if_neg (show ¬ (60 : Int32) ≤ nI i from nI_ge (b := 60) (by omega) (by decide)), at_in (k := 4) (show c < 84 from hcl), chn_hd hc, if_pos (by rfl)]
      rfl
  | a :: t, c, i, hcl, hc, hx, hi => by
    rw [List.length_cons] at hi
    obtain ⟨m, hm⟩ : ∃ m, 61 - i = m + 1 := ⟨60 - i, by omega⟩
    rw [hm]
    unfold lp_Sheets_cellBefore_9
    have e1 := chn_hd hc
    have e2 : hdI (a :: t ++ rest) = nI a := rfl
    rw [e2] at e1
    rw [if_neg (show ¬ (60 : Int32) ≤ nI i from nI_ge (b := 60) (by omega) (by decide)), at_in (k := 4) (show c < 84 from hcl), e1, if_neg (hx a (by simp)), nI_1]
    have ha : a < 60 := hc.2.1
    have := cellB (σ := σ) v1 (rest := rest) t a (i + 1) (by omega) hc.2.2 (fun b hb => hx b (List.mem_cons_of_mem _ hb)) (by omega)
    rw [show 61 - (i + 1) = m by omega] at this
    exact this
theorem cellBefore_eq {σ : SC} {s : Nat} (hs : s < 24) {x rest : List Nat} (hc : chn (xL σ 4) (60 + s) (x ++ rest)) (hx : ∀ a ∈ x, nI a ≠ hdI rest) (hl : x.length ≤ 60) : m_Sheets_cellBefore σ (nI s) (hdI rest) = nI (lastc (60 + s) x) := by
  unfold m_Sheets_cellBefore m_Sheets_headOf
  have e1 : (60 : Int32).toNatClampNeg + 1 = 61 - 0 := by decide
  have e2 : (60 : Int32) + nI s = nI (60 + s) := nI_add 60 s
  rw [e1, e2]
  have := cellB (σ := σ) (nI s) x (60 + s) 0 (by omega) hc hx (by omega)
  rw [nI_0] at this
  exact this
/-- a list of numbers below n without repeats is no longer than n -/
theorem nodup_len {n : Nat} {l : List Nat} (hd : l.Nodup) (h : ∀ a ∈ l, a < n) : l.length ≤ n := by
  have h1 : ((List.range n).filter (fun a => decide (a ∈ l))).length = l.length := by
    apply List.Perm.length_eq
    rw [List.perm_ext_iff_of_nodup (List.nodup_range.sublist List.filter_sublist) hd]
    intro a
    rw [List.mem_filter, List.mem_range]
    exact ⟨fun z => by simpa using z.2, fun z => ⟨h a z, by simpa using z⟩⟩
  have h2 := List.length_filter_le (fun a => decide (a ∈ l)) (List.range n)
  rw [h1, List.length_range] at h2
  exact h2
section CH
variable {ns np key : Nat} {al pa od cd rk : Nat → Nat} {pl : Nat → List Nat} {L2 L3 L4 N : Nat → Int64}
theorem pl_nodup (hR : R2 ns np key al pa od cd rk pl L2 L3 L4 N) {s : Nat} (hs : s < 24) : (pl s).Nodup :=
  (hR.2.2.1 s hs).2.2.imp fun {a b} hab e => by rw [e] at hab; omega
theorem pl_lt (hR : R2 ns np key al pa od cd rk pl L2 L3 L4 N) {s : Nat} (hs : s < 24) : ∀ a ∈ pl s, a < 60 := fun a ha => (((hR.2.2.1 s hs).2.1 a).mp ha).1
theorem pl_len (hR : R2 ns np key al pa od cd rk pl L2 L3 L4 N) {s : Nat} (hs : s < 24) : (pl s).length ≤ 60 := nodup_len (pl_nodup hR hs) (pl_lt hR hs)
theorem hd_nodup (hR : R2 ns np key al pa od cd rk pl L2 L3 L4 N) {s : Nat} (hs : s < 24) : ((60 + s) :: pl s).Nodup :=
  List.nodup_cons.mpr ⟨fun z => by have := pl_lt hR hs _ z; omega, pl_nodup hR hs⟩
end CH
/-! ranks -/
theorem rank_add {al pa cd rk : Nat → Nat} (C : Int32) {s cc : Nat} (hs : s < 24) (hcc : cc < 24) (hp : ∀ p, al p ≠ 0 → pa p < 24 ∧ cd p < 24) (hr : ∀ p, al p ≠ 0 → rk (cd p) < rk (pa p)) (hb : ∀ s, s < 24 → rk s < 24) (hcl : ∀ p, al p ≠ 0 → tb C (pa p) = true → tb C (cd p) = true) (h1 : tb C cc = true) (h2 : tb C s = false) :
    ∃ rk' : Nat → Nat, (∀ p, al p ≠ 0 → rk' (cd p) < rk' (pa p)) ∧ rk' cc < rk' s ∧ ∀ s, s < 24 → rk' s < 24 := by
  let r1 : Nat → Nat := fun t => if tb C t = true then rk t else rk t + 24
  have hr1 : ∀ p, al p ≠ 0 → r1 (cd p) < r1 (pa p) := fun p ha => by
    have h3 := hr p ha
    show (if tb C (cd p) = true then _ else _) < (if tb C (pa p) = true then _ else _)
    by_cases z : tb C (pa p) = true
    · rw [if_pos z, if_pos (hcl p ha z)]; exact h3
    · rw [if_neg z]; split <;> omega
  have hr2 : r1 cc < r1 s := by
    show (if tb C cc = true then _ else _) < (if tb C s = true then _ else _)
    rw [if_pos h1, if_neg (by rw [h2]; decide)]
    have := hb cc hcc
    omega
  refine ⟨fun t => (List.range 24).countP (fun u => decide (r1 u < r1 t)), fun p ha => ?_, ?_, fun t ht => ?_⟩
  · refine countP_lt (fun u _ h => ?_) ⟨cd p, by simpa using (hp p ha).2, by simpa using hr1 p ha, by simp⟩
    have := hr1 p ha
    simp at h ⊢; omega
  · refine countP_lt (fun u _ h => ?_) ⟨cc, by simpa using hcc, by simpa using hr2, by simp⟩
    simp at h ⊢; omega
  · have h3 := countP_lt (p := fun u => decide (r1 u < r1 t)) (q := fun _ => true) (l := List.range 24) (fun _ _ _ => rfl) ⟨t, by simpa using ht, rfl, by simp⟩
    have h4 : (List.range 24).countP (fun _ => true) = 24 := by decide
    show (List.range 24).countP (fun u => decide (r1 u < r1 t)) < 24
    omega
