def m_Journal_note (σ : SC) (k : Nat) (x1 : Int32) (x2 : Int64) : SC := zo σ ((k, x1, x2) :: xo σ)
def gA (π : PJ) (x : Int32) : Option Nat := if x < 0 then none else if nI 50 ≤ x then none else π.2.2.1 x.toNatClampNeg
def gP (π : PJ) (x : Int32) (o : Option Nat) : Nat → Option Nat := if x < 0 then π.2.2.1 else if nI 50 ≤ x then π.2.2.1 else va_up π.2.2.1 x.toNatClampNeg o
def gL (LA : Nat → List Nat) (x : Int32) : List Nat := if x < 0 then [] else if nI 50 ≤ x then [] else LA (x.toNatClampNeg + 2)
def jA (σ : SC) (x : Int32) : List Chg := if x < 0 then [] else if nI 50 ≤ x then [] else xa σ x.toNatClampNeg
def jP (σ : SC) (x : Int32) (t : List Chg) : SC := if x < 0 then σ else if nI 50 ≤ x then σ else za σ x.toNatClampNeg t
def m_Journal_keep (σ : SC) : SC := zn (zn (zo (jP σ (xn σ 1) (xo σ)) []) 1 ((xn σ 1 + 1) - (xn σ 1 + 1) / 50 * 50)) 0 (if (50 : Int32) < xn σ 0 + 1 then 50 else xn σ 0 + 1)
/-- the changes taken back, the latest first -/
def unw : List Chg → SC → SC
  | [], σ => σ
  | x :: t, σ => unw t (m_Row_restore σ x.1 x.2.1 x.2.2)
def m_Journal_takeBack (σ : SC) : SC := zo (unw (xo σ) σ) []
def jNx (σ : SC) : Int32 := (xn σ 1 + 50 - 1) - (xn σ 1 + 50 - 1) / 50 * 50
def m_Journal_stepBack (σ : SC) : Bool × SC := if xn σ 0 = 0 then (false, σ) else (true, m_Journal_takeBack (jP (zo (zn (zn σ 0 (xn σ 0 - 1)) 1 (jNx σ)) (jA σ (jNx σ))) (jNx σ) []))
theorem rj_Row_restore {π : PJ} {σ : SC} (h : RJ π σ) (k : Nat) (x0 : Int32) (x1 : Int64) : RJ π (m_Row_restore σ k x0 x1) := by
  unfold m_Row_restore
  split
  · exact h
  · split
    · exact h
    · exact h
theorem rj_unw {π : PJ} : ∀ {t : List Chg} {σ : SC}, RJ π σ → RJ π (unw t σ)
  | [], _, h => h
  | x :: t, _, h => rj_unw (t := t) (rj_Row_restore h x.1 x.2.1 x.2.2)
theorem xn_restore (σ : SC) (k : Nat) (x0 : Int32) (x1 : Int64) : xn (m_Row_restore σ k x0 x1) = xn σ := by
  unfold m_Row_restore
  split
  · rfl
  · split <;> rfl
theorem xa_unw : ∀ (t : List Chg) (σ : SC), xa (unw t σ) = xa σ
  | [], _ => rfl
  | x :: t, σ => by
    rw [unw, xa_unw t]
    unfold m_Row_restore
    split
    · rfl
    · split <;> rfl
theorem xa_takeBack (σ : SC) : xa (m_Journal_takeBack σ) = xa σ := xa_unw (xo σ) σ
/-- an index within the acts, or outside of them -/
theorem rg (x : Int32) : (∀ (π : PJ) (σ : SC) (LA : Nat → List Nat) (o : Option Nat) (t : List Chg), gA π x = none ∧ jA σ x = [] ∧ gL LA x = [] ∧ gP π x o = π.2.2.1 ∧ jP σ x t = σ) ∨ (∃ n : Nat, ∀ (π : PJ) (σ : SC) (LA : Nat → List Nat) (o : Option Nat) (t : List Chg), gA π x = π.2.2.1 n ∧ jA σ x = xa σ n ∧ gL LA x = LA (n + 2) ∧ gP π x o = va_up π.2.2.1 n o ∧ jP σ x t = za σ n t) := by
  by_cases c1 : x < 0
  · exact Or.inl fun π σ LA o t => ⟨if_pos c1, if_pos c1, if_pos c1, if_pos c1, if_pos c1⟩
  · by_cases c2 : nI 50 ≤ x
    · exact Or.inl fun π σ LA o t => ⟨(if_neg c1).trans (if_pos c2), (if_neg c1).trans (if_pos c2), (if_neg c1).trans (if_pos c2), (if_neg c1).trans (if_pos c2), (if_neg c1).trans (if_pos c2)⟩
    · exact Or.inr ⟨x.toNatClampNeg, fun π σ LA o t => ⟨(if_neg c1).trans (if_neg c2), (if_neg c1).trans (if_neg c2), (if_neg c1).trans (if_neg c2), (if_neg c1).trans (if_neg c2), (if_neg c1).trans (if_neg c2)⟩⟩
theorem ch_open {π : PJ} {A : List Nat} {o : Option Nat} {t : List Chg} (h : ch π.2.1 A o t) (hA : ∀ a ∈ A, a ∈ π.1) : ∀ a, o = some a → a ∈ π.1 := by
  intro a ha
  cases A with
  | nil =>
    obtain ⟨h1, -⟩ := h
    rw [h1] at ha; cases ha
  | cons b A =>
    obtain ⟨h1, -⟩ := h
    rw [h1] at ha
    cases ha
    exact hA _ List.mem_cons_self
/-- the last one of a chain -/
def lst : List Nat → Nat → Nat
  | [], z => z
  | a :: A, _ => lst A a
theorem lst_mem : ∀ (A : List Nat) (a : Nat), lst A a ∈ a :: A
  | [], _ => List.mem_cons_self
  | b :: A, a => List.mem_cons_of_mem a (lst_mem A b)
def fz (cg : Nat → Nat × Int32 × Int64 × Option Nat) (z : Nat) (o : Option Nat) : Nat × Int32 × Int64 × Option Nat := ((cg z).1, (cg z).2.1, (cg z).2.2.1, o)
/-- a chain set free -/
def frp (π : PJ) (A : List Nat) (o : Option Nat) : PJ := match o with
  | none => π
  | some h => (π.1, va_up π.2.1 (lst A h) (fz π.2.1 (lst A h) π.2.2.2.2), π.2.2.1, π.2.2.2.1, some h)
/-- the open act emptied -/
def fo (π : PJ) : PJ := (π.1, π.2.1, π.2.2.1, none, π.2.2.2.2)
theorem frp_fr (π : PJ) (A : List Nat) (o : Option Nat) : (frp π A o).1 = π.1 ∧ (frp π A o).2.2.1 = π.2.2.1 ∧ (frp π A o).2.2.2.1 = π.2.2.2.1 := by
  cases o <;> exact ⟨rfl, rfl, rfl⟩
theorem ch_fr {cg : Nat → Nat × Int32 × Int64 × Option Nat} {S : List Nat} {sp : Option Nat} {ts : List Chg} (hs : ch cg S sp ts) : ∀ {A : List Nat} {a : Nat} {o : Option Nat} {t : List Chg}, ch cg (a :: A) o t → (a :: A).Nodup → (∀ b ∈ a :: A, b ∉ S) → ch (va_up cg (lst A a) (fz cg (lst A a) sp)) ((a :: A) ++ S) o (t ++ ts)
  | [], a, o, t, h, _, hd => by
    obtain ⟨h1, h2, t', h3, -, h5⟩ := h
    subst h5
    subst h3
    show ch (va_up cg a (fz cg a sp)) (a :: S) o (((cg a).1, (cg a).2.1, (cg a).2.2.1) :: ts)
    exact ch_cons (va_up_self cg a (fz cg a sp)) h2 rfl h1 (ch_up (hd a List.mem_cons_self) hs)
  | b :: A, a, o, t, h, hn, hd => by
    obtain ⟨h1, h2, t', h3, h4⟩ := h
    subst h3
    have hne : a ≠ lst A b := fun e => (List.nodup_cons.mp hn).1 (by rw [e]; exact lst_mem A b)
    show ch (va_up cg (lst A b) (fz cg (lst A b) sp)) (a :: ((b :: A) ++ S)) o (((cg a).1, (cg a).2.1, (cg a).2.2.1) :: (t' ++ ts))
    exact ch_cons (va_up_ne cg (fz cg (lst A b) sp) hne) h2 rfl h1 (ch_fr hs h4 (List.nodup_cons.mp hn).2 (fun x hx => hd x (List.mem_cons_of_mem _ hx)))
theorem rk_free {π : PJ} {LA : Nat → List Nat} {o : List Chg} {ac : Nat → List Chg} (h : RK π LA o ac) {j : Nat} (hj : j ≠ 0) {g : Option Nat} {t : List Chg} (hc : ch π.2.1 (LA j) g t) : ap π.1 (va_up (va_up LA 0 (LA j ++ LA 0)) j []) ∧ (∃ ts, ch (frp π (LA j) g).2.1 (LA j ++ LA 0) (frp π (LA j) g).2.2.2.2 ts) ∧ ∀ i, i ≠ j → i ≠ 0 → ∀ (o2 : Option Nat) (t2 : List Chg), ch π.2.1 (LA i) o2 t2 → ch (frp π (LA j) g).2.1 (LA i) o2 t2 := by
  obtain ⟨hap, -, -, ts, hs⟩ := h
  refine ⟨ap_free hap hj, ?_⟩
  have hnd := ap_nd hap j
  have hdj : ∀ b ∈ LA j, ∀ i, i ≠ j → b ∉ LA i := fun b hb i hi hbi => hi (ap_eq hap hbi hb)
  cases hA : LA j with
  | nil =>
    rw [hA] at hc
    obtain ⟨h1, -⟩ := hc
    subst h1
    exact ⟨⟨ts, hs⟩, fun i _ _ o2 t2 h2 => h2⟩
  | cons a A =>
    rw [hA] at hc hnd hdj
    have hg : g = some a := by
      obtain ⟨h1, -⟩ := hc
      exact h1
    subst hg
    have h9 := ch_fr hs hc hnd (fun b hb => hdj b hb 0 (Ne.symm hj))
    refine ⟨⟨t ++ ts, h9⟩, fun i hi _ o2 t2 h2 => ?_⟩
    exact ch_up (hdj _ (lst_mem A a) i hi) h2
theorem rj_new {LP : List Nat} {cg : Nat → Nat × Int32 × Int64 × Option Nat} {ah : Nat → Option Nat} {op : Option Nat} {q k : Nat} {x1 : Int32} {x2 : Int64} {σ : SC} (hq : q ∉ LP) (hk : k < 19) (h : RJ (LP, cg, ah, op, none) σ) : RJ (LP ++ [q], va_up cg q (k, x1, x2, op), ah, some q, none) (m_Journal_note σ k x1 x2) := by
  obtain ⟨LA, hap, ho, ha, ts, hs⟩ := h
  have hn : ∀ i, q ∉ LA i := fun i hi => hq (ap_mem hap hi)
  refine ⟨va_up LA 1 (q :: LA 1), ap_new hap hq, ?_, fun j => ?_, ts, ?_⟩
  · show ch (va_up cg q (k, x1, x2, op)) (va_up LA 1 (q :: LA 1) 1) (some q) ((k, x1, x2) :: xo σ)
    rw [va_up_self LA]
    exact ch_cons (va_up_self cg q (k, x1, x2, op)) hk rfl rfl (ch_up (hn 1) ho)
  · rw [va_up_ne LA _ (show j + 2 ≠ 1 by omega)]
    exact ch_up (hn _) (ha j)
  · rw [va_up_ne LA _ (show (0 : Nat) ≠ 1 by decide)]
    exact ch_up (hn 0) hs
theorem rj_pop {LP : List Nat} {cg : Nat → Nat × Int32 × Int64 × Option Nat} {ah : Nat → Option Nat} {op : Option Nat} {a k : Nat} {x1 : Int32} {x2 : Int64} {σ : SC} (hk : k < 19) (h : RJ (LP, cg, ah, op, some a) σ) : a ∈ LP ∧ RJ (LP, va_up cg a (k, x1, x2, op), ah, some a, (cg a).2.2.2) (m_Journal_note σ k x1 x2) := by
  obtain ⟨LA, hap, ho, ha, ts, hs⟩ := h
  have hs : ch cg (LA 0) (some a) ts := hs
  obtain ⟨S, h0, ts', hs'⟩ : ∃ S, LA 0 = a :: S ∧ ∃ ts', ch cg S (cg a).2.2.2 ts' := by
    cases hA : LA 0 with
    | nil =>
      rw [hA] at hs
      obtain ⟨h1, -⟩ := hs
      cases h1
    | cons b S =>
      rw [hA] at hs
      obtain ⟨h1, -, t', -, h3⟩ := hs
      have e : a = b := Option.some.inj h1
      rw [← e] at h3 ⊢
      exact ⟨S, rfl, t', h3⟩
  have hn : ∀ i, i ≠ 0 → a ∉ LA i := fun i hi hai => hi (ap_eq hap hai (by rw [h0]; exact List.mem_cons_self))
  have hS : a ∉ S := by
    have h1 := ap_nd hap 0
    rw [h0] at h1
    exact (List.nodup_cons.mp h1).1
  refine ⟨ap_mem hap (i := 0) (by rw [h0]; exact List.mem_cons_self), va_up (va_up LA 0 S) 1 (a :: LA 1), ap_pop hap h0, ?_, fun j => ?_, ts', ?_⟩
  · show ch (va_up cg a (k, x1, x2, op)) (va_up (va_up LA 0 S) 1 (a :: LA 1) 1) (some a) ((k, x1, x2) :: xo σ)
    rw [va_up_self (va_up LA 0 S)]
    exact ch_cons (va_up_self cg a (k, x1, x2, op)) hk rfl rfl (ch_up (hn 1 (by decide)) ho)
  · rw [va_up_ne (va_up LA 0 S) _ (show j + 2 ≠ 1 by omega), va_up_ne LA _ (show j + 2 ≠ 0 by omega)]
    exact ch_up (hn _ (by omega)) (ha j)
  · rw [va_up_ne (va_up LA 0 S) _ (show (0 : Nat) ≠ 1 by decide), va_up_self LA]
    exact ch_up hS hs'
theorem rj_keep {π : PJ} {σ : SC} {LA : Nat → List Nat} (h : RK π LA (xo σ) (xa σ)) (x : Int32) {π' : PJ} (e : frp π (gL LA x) (gA π x) = π') : RJ (π'.1, π'.2.1, gP π' x π'.2.2.2.1, none, π'.2.2.2.2) (zo (jP σ x (xo σ)) []) := by
  have hf := frp_fr π (gL LA x) (gA π x)
  rw [e] at hf
  obtain ⟨f1, f2, f3⟩ := hf
  rcases rg x with hr | ⟨n, hr⟩
  · obtain ⟨r1, -, -, -, r5⟩ := hr π σ LA none (xo σ)
    obtain ⟨-, -, -, r4, -⟩ := hr π' σ LA π'.2.2.2.1 []
    rw [r1] at e
    have e : π = π' := e
    subst e
    rw [r4, r5]
    obtain ⟨hap, ho, ha, hs⟩ := h
    refine ⟨va_up LA 1 [], ap_drop hap 1, ?_, fun i => ?_, ?_⟩
    · show ch π.2.1 (va_up LA 1 [] 1) none []
      rw [va_up_self LA]
      exact ⟨rfl, rfl⟩
    · rw [va_up_ne LA _ (show i + 2 ≠ 1 by omega)]
      exact ha i
    · rw [va_up_ne LA _ (show (0 : Nat) ≠ 1 by decide)]
      exact hs
  · obtain ⟨r1, -, r3, -, r5⟩ := hr π σ LA none (xo σ)
    obtain ⟨-, -, -, r4, -⟩ := hr π' σ LA π'.2.2.2.1 []
    rw [r1, r3] at e
    rw [r4, r5]
    obtain ⟨hap1, ⟨ts, hsp⟩, hoth⟩ := rk_free h (j := n + 2) (by omega) (h.2.2.1 n)
    rw [e] at hsp hoth
    have hL1 : va_up (va_up LA 0 (LA (n + 2) ++ LA 0)) (n + 2) [] 1 = LA 1 := by
      rw [va_up_ne _ _ (show 1 ≠ n + 2 by omega), va_up_ne LA _ (show (1 : Nat) ≠ 0 by decide)]
    have hap2 := ap_move hap1 (i1 := 1) (i2 := n + 2)
    rw [hL1] at hap2
    refine ⟨va_up (va_up (va_up (va_up LA 0 (LA (n + 2) ++ LA 0)) (n + 2) []) (n + 2) (LA 1)) 1 [], ?_, ?_, fun i => ?_, ts, ?_⟩
    · show ap π'.1 _
      rw [f1]
      exact hap2
    · show ch π'.2.1 (va_up (va_up (va_up (va_up LA 0 (LA (n + 2) ++ LA 0)) (n + 2) []) (n + 2) (LA 1)) 1 [] 1) none []
      rw [va_up_self (va_up (va_up (va_up LA 0 (LA (n + 2) ++ LA 0)) (n + 2) []) (n + 2) (LA 1))]
      exact ⟨rfl, rfl⟩
    · rw [va_up_ne _ ([] : List Nat) (show i + 2 ≠ 1 by omega)]
      by_cases hi : i = n
      · subst hi
        rw [va_up_self _ (i + 2) (LA 1)]
        show ch π'.2.1 (LA 1) (va_up π'.2.2.1 i π'.2.2.2.1 i) (va_up (xa σ) i (xo σ) i)
        rw [va_up_self π'.2.2.1, va_up_self (xa σ), f3]
        exact hoth 1 (by omega) (by decide) _ _ h.2.1
      · rw [va_up_ne _ (LA 1) (show i + 2 ≠ n + 2 by omega), va_up_ne _ ([] : List Nat) (show i + 2 ≠ n + 2 by omega), va_up_ne LA _ (show i + 2 ≠ 0 by omega)]
        show ch π'.2.1 (LA (i + 2)) (va_up π'.2.2.1 n π'.2.2.2.1 i) (va_up (xa σ) n (xo σ) i)
        rw [va_up_ne π'.2.2.1 _ hi, va_up_ne (xa σ) _ hi, f2]
        exact hoth (i + 2) (by omega) (by omega) _ _ (h.2.2.1 i)
    · rw [va_up_ne _ ([] : List Nat) (show (0 : Nat) ≠ 1 by decide), va_up_ne _ (LA 1) (show 0 ≠ n + 2 by omega), va_up_ne _ ([] : List Nat) (show 0 ≠ n + 2 by omega), va_up_self LA]
      exact hsp
theorem rj_step {π : PJ} {σ : SC} (h : RJ π σ) (x : Int32) : RJ (π.1, π.2.1, gP π x none, gA π x, π.2.2.2.2) (jP (zo σ (jA σ x)) x []) := by
  obtain ⟨LA, hap, ho, ha, hs⟩ := h
  rcases rg x with hr | ⟨n, hr⟩
  · obtain ⟨r1, r2, -, r4, -⟩ := hr π σ LA none []
    obtain ⟨-, -, -, -, r5⟩ := hr π (zo σ []) LA none []
    rw [r4, r1, r2, r5]
    refine ⟨va_up LA 1 [], ap_drop hap 1, ?_, fun i => ?_, ?_⟩
    · show ch π.2.1 (va_up LA 1 [] 1) none []
      rw [va_up_self LA]
      exact ⟨rfl, rfl⟩
    · rw [va_up_ne LA _ (show i + 2 ≠ 1 by omega)]
      exact ha i
    · rw [va_up_ne LA _ (show (0 : Nat) ≠ 1 by decide)]
      exact hs
  · obtain ⟨r1, r2, -, r4, -⟩ := hr π σ LA none []
    obtain ⟨-, -, -, -, r5⟩ := hr π (zo σ (xa σ n)) LA none []
    rw [r4, r1, r2, r5]
    refine ⟨va_up (va_up LA 1 (LA (n + 2))) (n + 2) [], ap_move hap, ?_, fun i => ?_, ?_⟩
    · show ch π.2.1 (va_up (va_up LA 1 (LA (n + 2))) (n + 2) [] 1) (π.2.2.1 n) (xa σ n)
      rw [va_up_ne _ ([] : List Nat) (show 1 ≠ n + 2 by omega), va_up_self LA]
      exact ha n
    · by_cases hi : i = n
      · subst hi
        show ch π.2.1 (va_up (va_up LA 1 (LA (i + 2))) (i + 2) [] (i + 2)) (va_up π.2.2.1 i none i) (va_up (xa σ) i [] i)
        rw [va_up_self (va_up LA 1 (LA (i + 2))), va_up_self π.2.2.1, va_up_self (xa σ)]
        exact ⟨rfl, rfl⟩
      · show ch π.2.1 (va_up (va_up LA 1 (LA (n + 2))) (n + 2) [] (i + 2)) (va_up π.2.2.1 n none i) (va_up (xa σ) n [] i)
        rw [va_up_ne (va_up LA 1 (LA (n + 2))) _ (show i + 2 ≠ n + 2 by omega), va_up_ne LA _ (show i + 2 ≠ 1 by omega), va_up_ne π.2.2.1 _ hi, va_up_ne (xa σ) _ hi]
        exact ha i
    · rw [va_up_ne (va_up LA 1 (LA (n + 2))) _ (show 0 ≠ n + 2 by omega), va_up_ne LA _ (show (0 : Nat) ≠ 1 by decide)]
      exact hs
theorem rj_take {π : PJ} {σ σ' : SC} {LA : Nat → List Nat} (h : RK π LA (xo σ) (xa σ)) (ho : xo σ' = []) (hx : xa σ' = xa σ) : RJ (fo (frp π (LA 1) π.2.2.2.1)) σ' := by
  obtain ⟨f1, f2, -⟩ := frp_fr π (LA 1) π.2.2.2.1
  obtain ⟨hap1, ⟨ts, hsp⟩, hoth⟩ := rk_free h (j := 1) (by decide) h.2.1
  generalize frp π (LA 1) π.2.2.2.1 = π' at f1 f2 hsp hoth ⊢
  refine ⟨va_up (va_up LA 0 (LA 1 ++ LA 0)) 1 [], ?_, ?_, fun i => ?_, ts, ?_⟩
  · show ap π'.1 _
    rw [f1]
    exact hap1
  · rw [ho]
    show ch π'.2.1 (va_up (va_up LA 0 (LA 1 ++ LA 0)) 1 [] 1) none []
    rw [va_up_self (va_up LA 0 (LA 1 ++ LA 0))]
    exact ⟨rfl, rfl⟩
  · rw [hx, va_up_ne (va_up LA 0 (LA 1 ++ LA 0)) _ (show i + 2 ≠ 1 by omega), va_up_ne LA _ (show i + 2 ≠ 0 by omega)]
    show ch π'.2.1 (LA (i + 2)) (π'.2.2.1 i) (xa σ i)
    rw [f2]
    exact hoth (i + 2) (by omega) (by omega) _ _ (h.2.2.1 i)
  · rw [va_up_ne (va_up LA 0 (LA 1 ++ LA 0)) _ (show (0 : Nat) ≠ 1 by decide), va_up_self LA]
    exact hsp
/-- where a change lies -/
theorem lkC_chg {G : Nat → Nat → Nat} {cI cL cQ : ClassId} {σ : SC} {π : PJ} {rest : va_W} {a : Nat} (ha : a ∈ π.1) : ∃ q : Nat, (wsC G cI cL cQ σ π rest)[q]? = some (a, .inr (CI_Change, [.ref (G 1 (π.2.1 a).1), .int (π.2.1 a).2.1, .long (π.2.1 a).2.2.1, va_rf (π.2.1 a).2.2.2])) := by
  apply List.getElem?_of_mem
  unfold wsC
  simp only [List.mem_append]
  exact Or.inr (Or.inr (Or.inr (Or.inr (Or.inr (List.mem_map.mpr ⟨a, ha, rfl⟩)))))
theorem wsC_push {G : Nat → Nat → Nat} {cI cL cQ : ClassId} {σ : SC} {π : PJ} {rest : va_W} {q : Nat} {c : Nat × Int32 × Int64 × Option Nat} (hq : q ∉ π.1) : wsC G cI cL cQ σ π rest ++ [(q, .inr (CI_Change, [.ref (G 1 c.1), .int c.2.1, .long c.2.2.1, va_rf c.2.2.2]))] = wsC G cI cL cQ σ (π.1 ++ [q], va_up π.2.1 q c, π.2.2) rest := by
  have hf : va_up (cgC G π) q (.inr (CI_Change, [.ref (G 1 c.1), .int c.2.1, .long c.2.2.1, va_rf c.2.2.2])) = cgC G (π.1 ++ [q], va_up π.2.1 q c, π.2.2) := by
    funext a
    by_cases h : a = q
    · subst h; simp [va_up, cgC]
    · simp [va_up, cgC, h]
  unfold wsC
  simp only [List.append_assoc]
  rw [va_pl_push hq, hf]
  rfl
theorem wsC_ap {G : Nat → Nat → Nat} {cI cL cQ : ClassId} {σ : SC} {π : PJ} {rest : va_W} : wsC G cI cL cQ σ π rest = (obC G cQ σ π ++ ((List.range 7).map (iaC G cI σ) ++ ((List.range 19).map (rwC G) ++ ((List.range 19).map (laC G cL σ) ++ rest)))) ++ va_pl π.1 (cgC G π) := by
  unfold wsC
  simp only [List.append_assoc]
/-- a change filled anew -/
theorem wsC_chg {N0 : Nat} {G : Nat → Nat → Nat} {cI cL cQ : ClassId} {σ : SC} {π : PJ} {rest : va_W} {a k : Nat} (c : Nat × Int32 × Int64 × Option Nat) (hD : va_D (ga N0) (wsC G cI cL cQ σ π rest)) (ha : a ∈ π.1) (hk : (wsC G cI cL cQ σ π rest)[k]? = some (a, .inr (CI_Change, [.ref (G 1 (π.2.1 a).1), .int (π.2.1 a).2.1, .long (π.2.1 a).2.2.1, va_rf (π.2.1 a).2.2.2]))) : (wsC G cI cL cQ σ π rest).set k (a, .inr (CI_Change, [.ref (G 1 c.1), .int c.2.1, .long c.2.2.1, va_rf c.2.2.2])) = wsC G cI cL cQ σ (π.1, va_up π.2.1 a c, π.2.2) rest := by
  have hf : va_up (cgC G π) a (.inr (CI_Change, [.ref (G 1 c.1), .int c.2.1, .long c.2.2.1, va_rf c.2.2.2])) = cgC G (π.1, va_up π.2.1 a c, π.2.2) := by
    funext b
    by_cases h : b = a
    · subst h; simp [va_up, cgC]
    · simp [va_up, cgC, h]
  rw [wsC_ap] at hD hk ⊢
  rw [va_pl_set hD ha hk, hf, wsC_ap]
  rfl
theorem not_pool {N0 : Nat} {G : Nat → Nat → Nat} {cI cL cQ : ClassId} {σ : SC} {π : PJ} {rest : va_W} {q : Nat} {x : va_E} (hD : va_D (ga N0) (wsC G cI cL cQ σ π rest ++ [(q, x)])) : q ∉ π.1 := by
  intro h
  obtain ⟨k, hk⟩ := lkC_chg (G := G) (cI := cI) (cL := cL) (cQ := cQ) (σ := σ) (rest := rest) h
  exact nw_fresh hD k hk
section JO
variable {l : Launch} {D : va_G} {N0 : Nat} {G : Nat → Nat → Nat} {cI cL cQ : ClassId} {rest : va_W}

set_option maxHeartbeats 4000000 in
set_option maxRecDepth 100000 in
theorem c_Change_init {ws : va_W} {a : Nat} : CM l y_Change_init b_Change_init 1 none { frames := 1, cells := 0, slots := 0, locals := 12 } D (tyL cI cL cQ) N0 N0 [.ref a] ws none (fun w => w = ws) 0 0 := by
  refine met_of (own := R_Change) (by decide) rfl nwl_ok ?_
  intro p e s m below meth c hC hin hB
  have hx := hC.1
  have hb := hC.2.1
  have hl := lv_entry ([.ref a]) (n := 1) (Nat.le_of_ble_eq_true rfl)
  rw [lg_entry_eq]
  generalize (lg_sl ([.ref a]) ++ List.replicate (1 - (lg_sl ([.ref a])).length) Slot.unset).toArray = ls at hl ⊢
  have hl : lv_has ls 1 [(0, .ref a)] := hl
  refine lv_aload_n hx hb d_Change_init_0 rfl (lv_at hl 0 rfl) ?_
  refine oi hC kw_308 kw_23 kw_24 hl.1 d_Change_init_1 (Nat.le_of_ble_eq_true rfl) (Nat.le_of_ble_eq_true rfl) ?_
  exact rv hC hB rfl d_Change_init_4

set_option maxHeartbeats 4000000 in
set_option maxRecDepth 100000 in
theorem c_Change_fill {ws : va_W} {q0 h0 : Nat} {v0 v1 v2 v3 : Value} (hq : ws[q0]? = some (h0, .inr (CI_Change, [v0, v1, v2, v3]))) (r : Nat) (x1 : Int32) (x2 : Int64) (b : Option Nat) : CM l y_Change_fill b_Change_fill 6 none { frames := 0, cells := 0, slots := 0, locals := 0 } D (tyL cI cL cQ) N0 N0 [.ref h0, .ref r, .int x1, .long x2, va_rf b] ws none (fun w => w = ws.set q0 (h0, .inr (CI_Change, [.ref r, .int x1, .long x2, va_rf b]))) 0 0 := by
  cases b with
  | none =>
    show CM l y_Change_fill b_Change_fill 6 none _ D (tyL cI cL cQ) N0 N0 [.ref h0, .ref r, .int x1, .long x2, .null] ws none _ 0 0
    refine met_of (own := R_Change) (by decide) rfl nwl_ok ?_
    intro p e s m below meth c hC hin hB
    have hx := hC.1
    have hb := hC.2.1
    have hl := lv_entry ([.ref h0, .ref r, .int x1, .long x2, .null]) (n := 6) (Nat.le_of_ble_eq_true rfl)
    rw [lg_entry_eq]
    generalize (lg_sl ([.ref h0, .ref r, .int x1, .long x2, .null]) ++ List.replicate (6 - (lg_sl ([.ref h0, .ref r, .int x1, .long x2, .null])).length) Slot.unset).toArray = ls at hl ⊢
    have hl : lv_has ls 6 [(0, .ref h0), (1, .ref r), (2, .int x1), (3, .long x2), (5, .null)] := hl
    have hlt : q0 < ws.length := (List.getElem?_eq_some_iff.mp hq).1
    refine lv_aload_n hx hb d_Change_fill_0 rfl (lv_at hl 0 rfl) ?_
    refine lv_aload_n hx hb d_Change_fill_1 rfl (lv_at hl 1 rfl) ?_
    refine pt (ty := .object "SheetTrees$Row") rfl hC hB q0 hq rfl i_Change t_Change t_Change_ok n_Change 0 (by decide) rfl rfl kw_309 (by decide +kernel) rfl rfl (Nat.le_of_ble_eq_true rfl) d_Change_fill_2 rfl (fun H locs hB => ?_)
    refine lv_aload_n hx hb d_Change_fill_5 rfl (lv_at hl 0 rfl) ?_
    refine lv_iload_n hx hb d_Change_fill_6 rfl (lv_at hl 2 rfl) ?_
    refine pt (ty := .int) rfl hC hB q0 (List.getElem?_set_self (by simpa using hlt)) rfl i_Change t_Change t_Change_ok n_Change 1 (by decide) rfl rfl kw_310 (by decide +kernel) rfl rfl (Nat.le_of_ble_eq_true rfl) d_Change_fill_7 rfl (fun H locs hB => ?_)
    refine lv_aload_n hx hb d_Change_fill_10 rfl (lv_at hl 0 rfl) ?_
    refine lv_lload_n hx hb d_Change_fill_11 rfl (lv_at hl 3 rfl) ?_
    refine pt (ty := .long) rfl hC hB q0 (List.getElem?_set_self (by simpa using hlt)) rfl i_Change t_Change t_Change_ok n_Change 2 (by decide) rfl rfl kw_311 (by decide +kernel) rfl rfl (Nat.le_of_ble_eq_true rfl) d_Change_fill_12 rfl (fun H locs hB => ?_)
    refine lv_aload_n hx hb d_Change_fill_15 rfl (lv_at hl 0 rfl) ?_
    refine lv_aloadN hx hb d_Change_fill_16 (lv_at hl 4 rfl) ?_
    refine pt (ty := .object "SheetTrees$Change") rfl hC hB q0 (List.getElem?_set_self (by simpa using hlt)) rfl i_Change t_Change t_Change_ok n_Change 3 (by decide) rfl rfl kw_312 (by decide +kernel) rfl rfl (Nat.le_of_ble_eq_true rfl) d_Change_fill_18 rfl (fun H locs hB => ?_)
    exact rv hC hB (by simp only [List.set_set]; rfl) d_Change_fill_21
  | some a0 =>
    show CM l y_Change_fill b_Change_fill 6 none _ D (tyL cI cL cQ) N0 N0 [.ref h0, .ref r, .int x1, .long x2, .ref a0] ws none _ 0 0
    refine met_of (own := R_Change) (by decide) rfl nwl_ok ?_
    intro p e s m below meth c hC hin hB
    have hx := hC.1
    have hb := hC.2.1
    have hl := lv_entry ([.ref h0, .ref r, .int x1, .long x2, .ref a0]) (n := 6) (Nat.le_of_ble_eq_true rfl)
    rw [lg_entry_eq]
    generalize (lg_sl ([.ref h0, .ref r, .int x1, .long x2, .ref a0]) ++ List.replicate (6 - (lg_sl ([.ref h0, .ref r, .int x1, .long x2, .ref a0])).length) Slot.unset).toArray = ls at hl ⊢
    have hl : lv_has ls 6 [(0, .ref h0), (1, .ref r), (2, .int x1), (3, .long x2), (5, .ref a0)] := hl
    have hlt : q0 < ws.length := (List.getElem?_eq_some_iff.mp hq).1
    refine lv_aload_n hx hb d_Change_fill_0 rfl (lv_at hl 0 rfl) ?_
    refine lv_aload_n hx hb d_Change_fill_1 rfl (lv_at hl 1 rfl) ?_
    refine pt (ty := .object "SheetTrees$Row") rfl hC hB q0 hq rfl i_Change t_Change t_Change_ok n_Change 0 (by decide) rfl rfl kw_309 (by decide +kernel) rfl rfl (Nat.le_of_ble_eq_true rfl) d_Change_fill_2 rfl (fun H locs hB => ?_)
    refine lv_aload_n hx hb d_Change_fill_5 rfl (lv_at hl 0 rfl) ?_
    refine lv_iload_n hx hb d_Change_fill_6 rfl (lv_at hl 2 rfl) ?_
    refine pt (ty := .int) rfl hC hB q0 (List.getElem?_set_self (by simpa using hlt)) rfl i_Change t_Change t_Change_ok n_Change 1 (by decide) rfl rfl kw_310 (by decide +kernel) rfl rfl (Nat.le_of_ble_eq_true rfl) d_Change_fill_7 rfl (fun H locs hB => ?_)
    refine lv_aload_n hx hb d_Change_fill_10 rfl (lv_at hl 0 rfl) ?_
    refine lv_lload_n hx hb d_Change_fill_11 rfl (lv_at hl 3 rfl) ?_
    refine pt (ty := .long) rfl hC hB q0 (List.getElem?_set_self (by simpa using hlt)) rfl i_Change t_Change t_Change_ok n_Change 2 (by decide) rfl rfl kw_311 (by decide +kernel) rfl rfl (Nat.le_of_ble_eq_true rfl) d_Change_fill_12 rfl (fun H locs hB => ?_)
    refine lv_aload_n hx hb d_Change_fill_15 rfl (lv_at hl 0 rfl) ?_
    refine lv_aload hx hb d_Change_fill_16 (lv_at hl 4 rfl) ?_
    refine pt (ty := .object "SheetTrees$Change") rfl hC hB q0 (List.getElem?_set_self (by simpa using hlt)) rfl i_Change t_Change t_Change_ok n_Change 3 (by decide) rfl rfl kw_312 (by decide +kernel) rfl rfl (Nat.le_of_ble_eq_true rfl) d_Change_fill_18 rfl (fun H locs hB => ?_)
    exact rv hC hB (by simp only [List.set_set]; rfl) d_Change_fill_21

theorem setC_open {σ : SC} {π : PJ} {o : Option Nat} : (wsC G cI cL cQ σ π rest).set 1 (G 0 1, .inr (CI_Journal, ([.ref (G 0 2), .int (xn σ 0), .int (xn σ 1), va_rf π.2.2.2.1, va_rf π.2.2.2.2] : List Value).set 3 (va_rf o))) = wsC G cI cL cQ σ (π.1, π.2.1, π.2.2.1, o, π.2.2.2.2) rest := rfl
theorem setC_open0 {σ : SC} {π : PJ} : (wsC G cI cL cQ σ π rest).set 1 (G 0 1, .inr (CI_Journal, ([.ref (G 0 2), .int (xn σ 0), .int (xn σ 1), va_rf π.2.2.2.1, va_rf π.2.2.2.2] : List Value).set 3 .null)) = wsC G cI cL cQ σ (fo π) rest := rfl
theorem setC_spare {σ : SC} {π : PJ} {o : Option Nat} : (wsC G cI cL cQ σ π rest).set 1 (G 0 1, .inr (CI_Journal, ([.ref (G 0 2), .int (xn σ 0), .int (xn σ 1), va_rf π.2.2.2.1, va_rf π.2.2.2.2] : List Value).set 4 (va_rf o))) = wsC G cI cL cQ σ (π.1, π.2.1, π.2.2.1, π.2.2.2.1, o) rest := rfl

set_option maxHeartbeats 4000000 in
set_option maxRecDepth 100000 in
theorem c_Journal_note (k : Nat) (hk : k < 19) (σ : SC) (π : PJ) (hπ : RJ π σ) (x1 : Int32) (x2 : Int64) : CM l y_Journal_note b_Journal_note 6 none { frames := 2, cells := 1, slots := 4, locals := 37 } D (tyL cI cL cQ) N0 N0 [.ref (G 0 1), .ref (G 1 k), .int x1, .long x2] (wsC G cI cL cQ σ π rest) none (pwC G cI cL cQ (m_Journal_note σ k x1 x2) rest) 1 4 := by
  obtain ⟨LP, cg, ah, op, sp⟩ := π
  refine met_of (own := R_Journal) (by decide) rfl nwl_ok ?_
  intro p e s m below meth c hC hin hB
  have hx := hC.1
  have hb := hC.2.1
  have hl := lv_entry ([.ref (G 0 1), .ref (G 1 k), .int x1, .long x2]) (n := 6) (Nat.le_of_ble_eq_true rfl)
  rw [lg_entry_eq]
  generalize (lg_sl ([.ref (G 0 1), .ref (G 1 k), .int x1, .long x2]) ++ List.replicate (6 - (lg_sl ([.ref (G 0 1), .ref (G 1 k), .int x1, .long x2])).length) Slot.unset).toArray = ls at hl ⊢
  have hl : lv_has ls 6 [(0, .ref (G 0 1)), (1, .ref (G 1 k)), (2, .int x1), (3, .long x2)] := hl
  refine lv_aload_n hx hb d_Journal_note_0 rfl (lv_at hl 0 rfl) ?_
  refine gt (v := va_rf sp) hC hB _ lkC_Journal rfl i_Journal 4 (by decide) rfl kw_37 rfl d_Journal_note_1 ?_
  cases sp with
  | none =>
    refine lv_astoreN (lv' := [(5, .null), (0, .ref (G 0 1)), (1, .ref (G 1 k)), (2, .int x1), (3, .long x2)]) hx hb d_Journal_note_4 hl (by decide) rfl (fun ls hl => ?_)
    refine lv_aloadN hx hb d_Journal_note_6 (lv_at hl 0 rfl) ?_
    refine lv_ifnonnullN hx hb d_Journal_note_8 ?_
    refine nwo (ci := CI_Change) (fs := [.null, .int 0, .long 0, .null]) rfl hC hB rfl i_Change t_Change t_Change_ok kw_31 kw_304 kw_11 (fun j hj => by rcases (show j = 0 ∨ j = 1 ∨ j = 2 ∨ j = 3 by omega) with rfl | rfl | rfl | rfl <;> rfl) (Nat.le_of_ble_eq_true rfl) (Nat.le_of_ble_eq_true rfl) d_Journal_note_11 (fun q H hB => ?_)
    have hnp := not_pool hB.2.1
    refine lv_dup hx hb d_Journal_note_14 rfl ?_
    refine kIN hC hB c_Change_init allw_ok mf_Change_init kw_306 rfl nw_3 ⟨rfl, rfl, Nat.le_of_ble_eq_true rfl, Nat.le_of_ble_eq_true rfl⟩ rfl rfl hl.1 (Nat.le_of_ble_eq_true rfl) d_Journal_note_15 ⟨Nat.le_of_ble_eq_true rfl, Nat.le_of_ble_eq_true rfl⟩ (roK fun H locs hB => ?_)
    refine lv_astore (lv' := [(5, .ref q), (0, .ref (G 0 1)), (1, .ref (G 1 k)), (2, .int x1), (3, .long x2)]) hx hb d_Journal_note_18 hl (by decide) rfl (fun ls hl => ?_)
    refine lv_goto (tgt := 32) hx hb d_Journal_note_20 (by decide) ?_
    have hq1 : (wsC G cI cL cQ σ (LP, cg, ah, op, none) rest ++ [(q, .inr (CI_Change, [.null, .int 0, .long 0, .null]))])[(wsC G cI cL cQ σ (LP, cg, ah, op, none) rest).length]? = some (q, .inr (CI_Change, [.null, .int 0, .long 0, .null])) := by simp
    refine lv_aload hx hb d_Journal_note_32 (lv_at hl 0 rfl) ?_
    refine lv_aload_n hx hb d_Journal_note_34 rfl (lv_at hl 2 rfl) ?_
    refine lv_iload_n hx hb d_Journal_note_35 rfl (lv_at hl 3 rfl) ?_
    refine lv_lload_n hx hb d_Journal_note_36 rfl (lv_at hl 4 rfl) ?_
    refine lv_aload_n hx hb d_Journal_note_37 rfl (lv_at hl 1 rfl) ?_
    refine gt (fs := [.ref (G 0 2), .int (xn σ 0), .int (xn σ 1), va_rf op, .null]) (v := va_rf op) hC hB 1 rfl rfl i_Journal 3 (by decide) rfl kw_36 rfl d_Journal_note_38 ?_
    refine kV hC hB _ hq1 rfl (c_Change_fill hq1 (G 1 k) x1 x2 op) allw_ok mf_Change_fill kw_324 kw_325 kw_323 ⟨rfl, rfl, Nat.le_of_ble_eq_true rfl, Nat.le_of_ble_eq_true rfl⟩ rfl rfl hl.1 (Nat.le_of_ble_eq_true rfl) d_Journal_note_41 ⟨Nat.le_of_ble_eq_true rfl, Nat.le_of_ble_eq_true rfl⟩ (fun H locs w hw hB => ?_)
    have hw2 : w = wsC G cI cL cQ σ (LP ++ [q], va_up cg q (k, x1, x2, op), ah, op, none) rest := by
      rw [hw, List.set_append_right _ _ (Nat.le_refl _), Nat.sub_self]
      exact wsC_push (π := (LP, cg, ah, op, none)) (c := (k, x1, x2, op)) hnp
    subst hw2
    refine lv_aload_n hx hb d_Journal_note_44 rfl (lv_at hl 1 rfl) ?_
    refine lv_aload hx hb d_Journal_note_45 (lv_at hl 0 rfl) ?_
    refine pt (ty := .object "SheetTrees$Change") (v := va_rf (some q)) rfl hC hB _ lkC_Journal rfl i_Journal t_Journal t_Journal_ok n_Journal 3 (by decide) rfl rfl kw_36 (by decide +kernel) (nar_rf _ _) (fit_rf _ _) (Nat.le_of_ble_eq_true rfl) d_Journal_note_47 setC_open (fun H locs hB => ?_)
    exact rv hC hB ⟨_, rj_new hnp hk hπ, rfl⟩ d_Journal_note_50
  | some a =>
    obtain ⟨ha, hπ2⟩ := rj_pop (x1 := x1) (x2 := x2) hk hπ
    refine lv_astore (lv' := [(5, .ref a), (0, .ref (G 0 1)), (1, .ref (G 1 k)), (2, .int x1), (3, .long x2)]) hx hb d_Journal_note_4 hl (by decide) rfl (fun ls hl => ?_)
    refine lv_aload hx hb d_Journal_note_6 (lv_at hl 0 rfl) ?_
    refine lv_ifnonnull (tgt := 23) hx hb d_Journal_note_8 (by decide) ?_
    refine lv_aload_n hx hb d_Journal_note_23 rfl (lv_at hl 1 rfl) ?_
    refine lv_aload hx hb d_Journal_note_24 (lv_at hl 0 rfl) ?_
    obtain ⟨q0, hq0⟩ := lkC_chg (G := G) (cI := cI) (cL := cL) (cQ := cQ) (σ := σ) (π := (LP, cg, ah, op, some a)) (rest := rest) ha
    refine gtN (v := va_rf (cg a).2.2.2) hC hB _ hq0 rfl i_Change 3 (by decide) rfl nw_4 rfl d_Journal_note_26 ?_
    refine pt (ty := .object "SheetTrees$Change") (v := va_rf (cg a).2.2.2) rfl hC hB _ lkC_Journal rfl i_Journal t_Journal t_Journal_ok n_Journal 4 (by decide) rfl rfl kw_37 (by decide +kernel) (nar_rf _ _) (fit_rf _ _) (Nat.le_of_ble_eq_true rfl) d_Journal_note_29 setC_spare (fun H locs hB => ?_)
    obtain ⟨q1, hq1⟩ := lkC_chg (G := G) (cI := cI) (cL := cL) (cQ := cQ) (σ := σ) (π := (LP, cg, ah, op, (cg a).2.2.2)) (rest := rest) ha
    have hB : bd D classes N0 N0 (wsC G cI cL cQ σ (LP, cg, ah, op, (cg a).2.2.2) rest) s H locs := hB
    have hD := hB.2.1
    refine lv_aload hx hb d_Journal_note_32 (lv_at hl 0 rfl) ?_
    refine lv_aload_n hx hb d_Journal_note_34 rfl (lv_at hl 2 rfl) ?_
    refine lv_iload_n hx hb d_Journal_note_35 rfl (lv_at hl 3 rfl) ?_
    refine lv_lload_n hx hb d_Journal_note_36 rfl (lv_at hl 4 rfl) ?_
    refine lv_aload_n hx hb d_Journal_note_37 rfl (lv_at hl 1 rfl) ?_
    refine gt (fs := [.ref (G 0 2), .int (xn σ 0), .int (xn σ 1), va_rf op, va_rf (cg a).2.2.2]) (v := va_rf op) hC hB 1 rfl rfl i_Journal 3 (by decide) rfl kw_36 rfl d_Journal_note_38 ?_
    refine kV hC hB q1 hq1 rfl (c_Change_fill hq1 (G 1 k) x1 x2 op) allw_ok mf_Change_fill kw_324 kw_325 kw_323 ⟨rfl, rfl, Nat.le_of_ble_eq_true rfl, Nat.le_of_ble_eq_true rfl⟩ rfl rfl hl.1 (Nat.le_of_ble_eq_true rfl) d_Journal_note_41 ⟨Nat.le_of_ble_eq_true rfl, Nat.le_of_ble_eq_true rfl⟩ (fun H locs w hw hB => ?_)
    have hw2 : w = wsC G cI cL cQ σ (LP, va_up cg a (k, x1, x2, op), ah, op, (cg a).2.2.2) rest := by
      rw [hw]
      exact wsC_chg (π := (LP, cg, ah, op, (cg a).2.2.2)) (k, x1, x2, op) hD ha hq1
    subst hw2
    refine lv_aload_n hx hb d_Journal_note_44 rfl (lv_at hl 1 rfl) ?_
    refine lv_aload hx hb d_Journal_note_45 (lv_at hl 0 rfl) ?_
    refine pt (ty := .object "SheetTrees$Change") (v := va_rf (some a)) rfl hC hB _ lkC_Journal rfl i_Journal t_Journal t_Journal_ok n_Journal 3 (by decide) rfl rfl kw_36 (by decide +kernel) (nar_rf _ _) (fit_rf _ _) (Nat.le_of_ble_eq_true rfl) d_Journal_note_47 setC_open (fun H locs hB => ?_)
    refine W.widen (k := 1) (n := 4) (Nat.le_of_ble_eq_true rfl) (Nat.le_of_ble_eq_true rfl) ?_
    exact rv hC hB ⟨_, hπ2, rfl⟩ d_Journal_note_50

set_option maxHeartbeats 4000000 in
set_option maxRecDepth 100000 in
theorem c_Change_takeBack (σ : SC) (π : PJ) {a : Nat} (ha : a ∈ π.1) (hk : (π.2.1 a).1 < 19) : CM l y_Change_takeBack b_Change_takeBack 1 none { frames := 1, cells := 0, slots := 0, locals := 23 } D (tyL cI cL cQ) N0 N0 [.ref a] (wsC G cI cL cQ σ π rest) none (fun w => w = wsC G cI cL cQ (m_Row_restore σ (π.2.1 a).1 (π.2.1 a).2.1 (π.2.1 a).2.2.1) π rest) 0 0 := by
  obtain ⟨q0, hq1⟩ := lkC_chg (G := G) (cI := cI) (cL := cL) (cQ := cQ) (σ := σ) (rest := rest) ha
  refine met_of (own := R_Change) (by decide) rfl nwl_ok ?_
  intro p e s m below meth c hC hin hB
  have hx := hC.1
  have hb := hC.2.1
  have hl := lv_entry ([.ref a]) (n := 1) (Nat.le_of_ble_eq_true rfl)
  rw [lg_entry_eq]
  generalize (lg_sl ([.ref a]) ++ List.replicate (1 - (lg_sl ([.ref a])).length) Slot.unset).toArray = ls at hl ⊢
  have hl : lv_has ls 1 [(0, .ref a)] := hl
  refine lv_aload_n hx hb d_Change_takeBack_0 rfl (lv_at hl 0 rfl) ?_
  refine gt hC hB _ hq1 rfl i_Change 0 (by decide) rfl kw_309 rfl d_Change_takeBack_1 ?_
  refine lv_ifnull hx hb d_Change_takeBack_4 ?_
  refine lv_aload_n hx hb d_Change_takeBack_7 rfl (lv_at hl 0 rfl) ?_
  refine gt hC hB _ hq1 rfl i_Change 0 (by decide) rfl kw_309 rfl d_Change_takeBack_8 ?_
  refine lv_aload_n hx hb d_Change_takeBack_11 rfl (lv_at hl 0 rfl) ?_
  refine gt hC hB _ hq1 rfl i_Change 1 (by decide) rfl kw_310 rfl d_Change_takeBack_12 ?_
  refine lv_aload_n hx hb d_Change_takeBack_15 rfl (lv_at hl 0 rfl) ?_
  refine gt hC hB _ hq1 rfl i_Change 2 (by decide) rfl kw_311 rfl d_Change_takeBack_16 ?_
  refine kV hC hB _ (lkC_row hk) rfl (c_Row_restore (π.2.1 a).1 hk σ π (π.2.1 a).2.1 (π.2.1 a).2.2.1) allw_ok mf_Row_restore kw_77 kw_78 kw_370 ⟨rfl, rfl, Nat.le_of_ble_eq_true rfl, Nat.le_of_ble_eq_true rfl⟩ rfl rfl hl.1 (Nat.le_of_ble_eq_true rfl) d_Change_takeBack_19 ⟨Nat.le_of_ble_eq_true rfl, Nat.le_of_ble_eq_true rfl⟩ (roK fun H locs hB => ?_)
  exact rv hC hB rfl d_Change_takeBack_22

set_option maxHeartbeats 4000000 in
set_option maxRecDepth 100000 in
theorem c_Journal_getAct (σ : SC) (π : PJ) (x : Int32) : CM l y_Journal_getAct b_Journal_getAct 2 (some (.object "SheetTrees$Change")) { frames := 0, cells := 0, slots := 0, locals := 0 } D (tyL cI cL cQ) N0 N0 [.ref (G 0 1), .int x] (wsC G cI cL cQ σ π rest) (some (va_rf (gA π x))) (fun w => w = wsC G cI cL cQ σ π rest) 0 0 := by
  generalize hR : gA π x = RES
  refine met_of (own := R_Journal) (by decide) rfl nwl_ok ?_
  intro p e s m below meth c hC hin hB
  have hx := hC.1
  have hb := hC.2.1
  have hl := lv_entry ([.ref (G 0 1), .int x]) (n := 2) (Nat.le_of_ble_eq_true rfl)
  rw [lg_entry_eq]
  generalize (lg_sl ([.ref (G 0 1), .int x]) ++ List.replicate (2 - (lg_sl ([.ref (G 0 1), .int x])).length) Slot.unset).toArray = ls at hl ⊢
  have hl : lv_has ls 2 [(0, .ref (G 0 1)), (1, .int x)] := hl
  rw [gA] at hR
  refine lv_iload_n hx hb d_Journal_getAct_0 rfl (lv_at hl 1 rfl) ?_
  refine lv_if_lt (tgt := 22) hx hb d_Journal_getAct_1 (by decide) (fun c1 => ?_) (fun c1 => ?_)
  · rw [if_pos c1] at hR
    subst hR
    refine lv_null hx hb d_Journal_getAct_22 ?_
    exact ra (x := none) hC hB rfl d_Journal_getAct_23
  rw [if_neg c1] at hR
  refine lv_iload_n hx hb d_Journal_getAct_4 rfl (lv_at hl 1 rfl) ?_
  refine lv_aload_n hx hb d_Journal_getAct_5 rfl (lv_at hl 0 rfl) ?_
  refine gt hC hB _ lkC_Journal rfl i_Journal 0 (by decide) rfl kw_33 rfl d_Journal_getAct_6 ?_
  refine va_alen hx hb hC.2.2.2.2.2.2.2.1.1 hB.1 _ 2 lkC_acts rfl (v := nI 50) rfl d_Journal_getAct_9 ?_
  refine lv_icmp_ge (tgt := 22) hx hb d_Journal_getAct_10 (by decide) (fun c2 => ?_) (fun c2 => ?_)
  · rw [if_pos c2] at hR
    subst hR
    refine lv_null hx hb d_Journal_getAct_22 ?_
    exact ra (x := none) hC hB rfl d_Journal_getAct_23
  rw [if_neg c2] at hR
  subst hR
  refine lv_aload_n hx hb d_Journal_getAct_13 rfl (lv_at hl 0 rfl) ?_
  refine gt hC hB _ lkC_Journal rfl i_Journal 0 (by decide) rfl kw_33 rfl d_Journal_getAct_14 ?_
  refine lv_iload_n hx hb d_Journal_getAct_17 rfl (lv_at hl 1 rfl) ?_
  refine va_aldq (C := "SheetTrees$Change") hx hb hC.2.2.2.2.2.2.2.1.1 hB.1 _ 2 lkC_acts rfl (vin c1 c2 (by decide)) d_Journal_getAct_18 ?_
  refine lv_goto (tgt := 23) hx hb d_Journal_getAct_19 (by decide) ?_
  exact ra hC hB rfl d_Journal_getAct_23

theorem setC_acts {σ : SC} {π : PJ} {x : Int32} {o : Option Nat} : (wsC G cI cL cQ σ π rest).set 2 (G 0 2, .inl (cQ, 50, .inr (.inr (.inr (.inr (va_up π.2.2.1 x.toNatClampNeg o)))))) = wsC G cI cL cQ σ (π.1, π.2.1, va_up π.2.2.1 x.toNatClampNeg o, π.2.2.2) rest := rfl
set_option maxHeartbeats 4000000 in
set_option maxRecDepth 100000 in
theorem c_Journal_putAct (σ : SC) (π : PJ) (x : Int32) (o : Option Nat) (ho : ∀ a, o = some a → a ∈ π.1) : CM l y_Journal_putAct b_Journal_putAct 3 none { frames := 0, cells := 0, slots := 0, locals := 0 } D (tyL cI cL cQ) N0 N0 [.ref (G 0 1), .int x, va_rf o] (wsC G cI cL cQ σ π rest) none (fun w => w = wsC G cI cL cQ σ (π.1, π.2.1, gP π x o, π.2.2.2) rest) 0 0 := by
  generalize hR : gP π x o = RES
  rw [gP] at hR
  cases o with
  | none =>
    show CM l y_Journal_putAct b_Journal_putAct 3 none _ D (tyL cI cL cQ) N0 N0 [.ref (G 0 1), .int x, .null] _ none _ 0 0
    refine met_of (own := R_Journal) (by decide) rfl nwl_ok ?_
    intro p e s m below meth c hC hin hB
    have hx := hC.1
    have hb := hC.2.1
    have hl := lv_entry ([.ref (G 0 1), .int x, .null]) (n := 3) (Nat.le_of_ble_eq_true rfl)
    rw [lg_entry_eq]
    generalize (lg_sl ([.ref (G 0 1), .int x, .null]) ++ List.replicate (3 - (lg_sl ([.ref (G 0 1), .int x, .null])).length) Slot.unset).toArray = ls at hl ⊢
    have hl : lv_has ls 3 [(0, .ref (G 0 1)), (1, .int x), (2, .null)] := hl
    refine lv_iload_n hx hb d_Journal_putAct_0 rfl (lv_at hl 1 rfl) ?_
    refine lv_if_lt (tgt := 20) hx hb d_Journal_putAct_1 (by decide) (fun c1 => ?_) (fun c1 => ?_)
    · rw [if_pos c1] at hR
      subst hR
      exact rv hC hB rfl d_Journal_putAct_20
    rw [if_neg c1] at hR
    refine lv_iload_n hx hb d_Journal_putAct_4 rfl (lv_at hl 1 rfl) ?_
    refine lv_aload_n hx hb d_Journal_putAct_5 rfl (lv_at hl 0 rfl) ?_
    refine gt hC hB _ lkC_Journal rfl i_Journal 0 (by decide) rfl kw_33 rfl d_Journal_putAct_6 ?_
    refine va_alen hx hb hC.2.2.2.2.2.2.2.1.1 hB.1 _ 2 lkC_acts rfl (v := nI 50) rfl d_Journal_putAct_9 ?_
    refine lv_icmp_ge (tgt := 20) hx hb d_Journal_putAct_10 (by decide) (fun c2 => ?_) (fun c2 => ?_)
    · rw [if_pos c2] at hR
      subst hR
      exact rv hC hB rfl d_Journal_putAct_20
    rw [if_neg c2] at hR
    subst hR
    refine lv_aload_n hx hb d_Journal_putAct_13 rfl (lv_at hl 0 rfl) ?_
    refine gt hC hB _ lkC_Journal rfl i_Journal 0 (by decide) rfl kw_33 rfl d_Journal_putAct_14 ?_
    refine lv_iload_n hx hb d_Journal_putAct_17 rfl (lv_at hl 1 rfl) ?_
    refine lv_aload_nN hx hb d_Journal_putAct_18 rfl (lv_at hl 2 rfl) ?_
    refine va_astqN (C := "SheetTrees$Change") hx hb hC.2.2.2.2.2.2.2.1.1 hB.1 hB.2.1 hB.2.2 _ 2 lkC_acts rfl (vin c1 c2 (by decide)) d_Journal_putAct_19 (fun H locs h1 h2 h3 => ?_)
    rw [setC_acts] at h1 h2
    exact rv hC ⟨h1, h2, h3⟩ rfl d_Journal_putAct_20
  | some a =>
    show CM l y_Journal_putAct b_Journal_putAct 3 none _ D (tyL cI cL cQ) N0 N0 [.ref (G 0 1), .int x, .ref a] _ none _ 0 0
    refine met_of (own := R_Journal) (by decide) rfl nwl_ok ?_
    intro p e s m below meth c hC hin hB
    have hx := hC.1
    have hb := hC.2.1
    have hl := lv_entry ([.ref (G 0 1), .int x, .ref a]) (n := 3) (Nat.le_of_ble_eq_true rfl)
    rw [lg_entry_eq]
    generalize (lg_sl ([.ref (G 0 1), .int x, .ref a]) ++ List.replicate (3 - (lg_sl ([.ref (G 0 1), .int x, .ref a])).length) Slot.unset).toArray = ls at hl ⊢
    have hl : lv_has ls 3 [(0, .ref (G 0 1)), (1, .int x), (2, .ref a)] := hl
    refine lv_iload_n hx hb d_Journal_putAct_0 rfl (lv_at hl 1 rfl) ?_
    refine lv_if_lt (tgt := 20) hx hb d_Journal_putAct_1 (by decide) (fun c1 => ?_) (fun c1 => ?_)
    · rw [if_pos c1] at hR
      subst hR
      exact rv hC hB rfl d_Journal_putAct_20
    rw [if_neg c1] at hR
    refine lv_iload_n hx hb d_Journal_putAct_4 rfl (lv_at hl 1 rfl) ?_
    refine lv_aload_n hx hb d_Journal_putAct_5 rfl (lv_at hl 0 rfl) ?_
    refine gt hC hB _ lkC_Journal rfl i_Journal 0 (by decide) rfl kw_33 rfl d_Journal_putAct_6 ?_
    refine va_alen hx hb hC.2.2.2.2.2.2.2.1.1 hB.1 _ 2 lkC_acts rfl (v := nI 50) rfl d_Journal_putAct_9 ?_
    refine lv_icmp_ge (tgt := 20) hx hb d_Journal_putAct_10 (by decide) (fun c2 => ?_) (fun c2 => ?_)
    · rw [if_pos c2] at hR
      subst hR
      exact rv hC hB rfl d_Journal_putAct_20
    rw [if_neg c2] at hR
    subst hR
    refine lv_aload_n hx hb d_Journal_putAct_13 rfl (lv_at hl 0 rfl) ?_
    refine gt hC hB _ lkC_Journal rfl i_Journal 0 (by decide) rfl kw_33 rfl d_Journal_putAct_14 ?_
    refine lv_iload_n hx hb d_Journal_putAct_17 rfl (lv_at hl 1 rfl) ?_
    refine lv_aload_n hx hb d_Journal_putAct_18 rfl (lv_at hl 2 rfl) ?_
    obtain ⟨q0, hq0⟩ := lkC_chg (G := G) (cI := cI) (cL := cL) (cQ := cQ) (σ := σ) (rest := rest) (ho a rfl)
    refine va_astq (r := (R_Change, F_Change, 4)) hx hb hC.2.2.2.2.2.2.2.1.1 hB.1 hB.2.1 hB.2.2 _ 2 q0 CI_Change lkC_acts rfl hq0 rfl (vin c1 c2 (by decide)) d_Journal_putAct_19 (fun H locs h1 h2 h3 => ?_)
    rw [setC_acts] at h1 h2
    exact rv hC ⟨h1, h2, h3⟩ rfl d_Journal_putAct_20

theorem met_pw {y : MethodName} {bytes : ByteArray} {maxL : Nat} {rt : Option FieldType} {rm : Room} {tys : List (ClassId × FieldType)} {av : List Value} {ws : va_W} {v : Option Value} {PW PW' : va_W → Prop} {mc ms : Nat} (h : CM l y bytes maxL rt rm D tys N0 N0 av ws v PW mc ms) (hp : ∀ w, PW w → PW' w) : CM l y bytes maxL rt rm D tys N0 N0 av ws v PW' mc ms :=
  MetFree.mono h (fun _ _ q => q) (fun _ _ _ _ _ q => q) (fun _ _ _ _ _ q => ⟨⟨q.1.1, ⟨q.1.2.1.choose, hp _ q.1.2.1.choose_spec.1, q.1.2.1.choose_spec.2⟩, q.1.2.2⟩, q.2⟩)

theorem wsC_c {σ σ' : SC} {π : PJ} (h1 : σ.1 = σ'.1) (h2 : σ.2.1 = σ'.2.1) (h3 : σ.2.2.1 = σ'.2.2.1) : wsC G cI cL cQ σ π rest = wsC G cI cL cQ σ' π rest := by
  obtain ⟨a, b, c, d⟩ := σ
  obtain ⟨a', b', c', d'⟩ := σ'
  dsimp only at h1 h2 h3
  subst h1; subst h2; subst h3
  rfl
theorem jP_fr (σ : SC) (x : Int32) (t : List Chg) : (jP σ x t).1 = σ.1 ∧ (jP σ x t).2.1 = σ.2.1 ∧ (jP σ x t).2.2.1 = σ.2.2.1 ∧ (jP σ x t).2.2.2.2 = σ.2.2.2.2 := by
  unfold jP
  split
  · exact ⟨rfl, rfl, rfl, rfl⟩
  · split <;> exact ⟨rfl, rfl, rfl, rfl⟩
theorem ch_get {π : PJ} {σ : SC} {LA : Nat → List Nat} (h : RK π LA (xo σ) (xa σ)) (x : Int32) : ch π.2.1 (gL LA x) (gA π x) (jA σ x) ∧ ∀ a ∈ gL LA x, a ∈ π.1 := by
  obtain ⟨hap, -, ha, -⟩ := h
  rcases rg x with hr | ⟨n, hr⟩
  · obtain ⟨r1, r2, r3, -, -⟩ := hr π σ LA none []
    rw [r1, r2, r3]
    exact ⟨⟨rfl, rfl⟩, fun a h => by cases h⟩
  · obtain ⟨r1, r2, r3, -, -⟩ := hr π σ LA none []
    rw [r1, r2, r3]
    exact ⟨ha n, fun a h => ap_mem hap h⟩

set_option maxHeartbeats 4000000 in
set_option maxRecDepth 100000 in
theorem w_Journal_setFree_4 {p : Program} {e : Env} {s : State} {m : MethodId} {args : Array Value} {below : List Frame} {meth : Method} {c : Code} (σ : SC) (π : PJ) (h : Nat) {z : Nat} (hC : cx D classes (tyL cI cL cQ) NWL ALLW N0 p s m args meth c b_Journal_setFree 4 none R_Journal) :
    ∀ (A : List Nat) (t : List Chg) (o : Option Nat) (old : Nat), ch π.2.1 A o t → (∀ a ∈ A, a ∈ π.1) → old ∈ π.1 → lst A old = z → ∀ (H : Heap) (locs : List Loc), bd D classes N0 N0 (wsC G cI cL cQ σ π rest) s H locs → ∀ (ls : Array Slot), lv_has ls 4 [(0, .ref (G 0 1)), (1, .ref h), (2, .ref old), (3, va_rf o)] → W p l e { frames := 0, cells := 0, slots := 0, locals := 0 } s m args below meth c H locs 0 0 (MQ below (qx D classes N0 N0 none (fun w => w = wsC G cI cL cQ σ (π.1, va_up π.2.1 z (fz π.2.1 z π.2.2.2.2), π.2.2.1, π.2.2.2.1, some h) rest)) args s 0 0 (ga N0)) (F0 m 4 ls []) := by
  have hx := hC.1
  have hb := hC.2.1
  intro A
  induction A with
  | nil =>
    intro t o old hch hA ho hz H locs hB ls hl
    obtain ⟨e1, -⟩ := hch
    subst e1
    have hz : old = z := hz
    subst hz
    obtain ⟨q0, hq0⟩ := lkC_chg (G := G) (cI := cI) (cL := cL) (cQ := cQ) (σ := σ) (rest := rest) ho
    have hws := wsC_chg (fz π.2.1 old π.2.2.2.2) hB.2.1 ho hq0
    refine kq_aload_n (x := none) hx hb d_Journal_setFree_4 rfl (lv_at hl 3 rfl) ?_
    refine lv_ifnullN (tgt := 18) hx hb d_Journal_setFree_5 (by decide) ?_
    refine lv_aload_n hx hb d_Journal_setFree_18 rfl (lv_at hl 2 rfl) ?_
    refine lv_ifnull hx hb d_Journal_setFree_19 ?_
    refine lv_aload_n hx hb d_Journal_setFree_22 rfl (lv_at hl 2 rfl) ?_
    refine lv_aload_n hx hb d_Journal_setFree_23 rfl (lv_at hl 0 rfl) ?_
    refine gt (v := va_rf π.2.2.2.2) hC hB _ lkC_Journal rfl i_Journal 4 (by decide) rfl kw_37 rfl d_Journal_setFree_24 ?_
    refine ptN (ty := .object "SheetTrees$Change") (v := va_rf π.2.2.2.2) rfl hC hB _ hq0 rfl i_Change t_Change t_Change_ok n_Change 3 (by decide) rfl rfl nw_4 (by decide +kernel) (nar_rf _ _) (fit_rf _ _) (Nat.le_of_ble_eq_true rfl) d_Journal_setFree_27 hws (fun H locs hB => ?_)
    refine lv_aload_n hx hb d_Journal_setFree_30 rfl (lv_at hl 0 rfl) ?_
    refine lv_aload_n hx hb d_Journal_setFree_31 rfl (lv_at hl 1 rfl) ?_
    refine pt (ty := .object "SheetTrees$Change") (v := va_rf (some h)) rfl hC hB _ lkC_Journal rfl i_Journal t_Journal t_Journal_ok n_Journal 4 (by decide) rfl rfl kw_37 (by decide +kernel) (nar_rf _ _) (fit_rf _ _) (Nat.le_of_ble_eq_true rfl) d_Journal_setFree_32 setC_spare (fun H locs hB => ?_)
    exact rv hC hB rfl d_Journal_setFree_35
  | cons a A ih =>
    intro t o old hch hA ho hz H locs hB ls hl
    obtain ⟨e1, -, t', -, hch⟩ := hch
    subst e1
    have ha := hA a List.mem_cons_self
    obtain ⟨q0, hq0⟩ := lkC_chg (G := G) (cI := cI) (cL := cL) (cQ := cQ) (σ := σ) (rest := rest) ha
    have hl : lv_has ls 4 [(0, .ref (G 0 1)), (1, .ref h), (2, .ref old), (3, .ref a)] := hl
    refine lv_aload_n hx hb d_Journal_setFree_4 rfl (lv_at hl 3 rfl) ?_
    refine lv_ifnull hx hb d_Journal_setFree_5 ?_
    refine lv_aload_n hx hb d_Journal_setFree_8 rfl (lv_at hl 3 rfl) ?_
    refine lv_astore_n (lv' := [(2, .ref a), (0, .ref (G 0 1)), (1, .ref h), (3, .ref a)]) hx hb d_Journal_setFree_9 rfl hl (by decide) rfl (fun ls hl => ?_)
    refine lv_aload_n hx hb d_Journal_setFree_10 rfl (lv_at hl 3 rfl) ?_
    refine gtN (v := va_rf (π.2.1 a).2.2.2) hC hB _ hq0 rfl i_Change 3 (by decide) rfl nw_4 rfl d_Journal_setFree_11 ?_
    refine kq_astore_n (lv' := [(3, va_rf (π.2.1 a).2.2.2), (2, .ref a), (0, .ref (G 0 1)), (1, .ref h)]) hx hb d_Journal_setFree_14 rfl hl (by decide) rfl (fun ls hl => ?_)
    refine lv_goto (tgt := 4) hx hb d_Journal_setFree_15 (by decide) ?_
    exact ih t' _ a hch (fun b hb => hA b (List.mem_cons_of_mem _ hb)) ha hz _ _ hB ls (lv_sub hl [2, 3, 1, 0] rfl)
set_option maxHeartbeats 4000000 in
set_option maxRecDepth 100000 in
theorem c_Journal_setFree (σ : SC) (π : PJ) {A : List Nat} {o : Option Nat} {t : List Chg} (hch : ch π.2.1 A o t) (hA : ∀ a ∈ A, a ∈ π.1) : CM l y_Journal_setFree b_Journal_setFree 4 none { frames := 0, cells := 0, slots := 0, locals := 0 } D (tyL cI cL cQ) N0 N0 [.ref (G 0 1), va_rf o] (wsC G cI cL cQ σ π rest) none (fun w => w = wsC G cI cL cQ σ (frp π A o) rest) 0 0 := by
  cases o with
  | none =>
    show CM l y_Journal_setFree b_Journal_setFree 4 none _ D (tyL cI cL cQ) N0 N0 [.ref (G 0 1), .null] _ none _ 0 0
    refine met_of (own := R_Journal) (by decide) rfl nwl_ok ?_
    intro p e s m below meth c hC hin hB
    have hx := hC.1
    have hb := hC.2.1
    have hl := lv_entry ([.ref (G 0 1), .null]) (n := 4) (Nat.le_of_ble_eq_true rfl)
    rw [lg_entry_eq]
    generalize (lg_sl ([.ref (G 0 1), .null]) ++ List.replicate (4 - (lg_sl ([.ref (G 0 1), .null])).length) Slot.unset).toArray = ls at hl ⊢
    have hl : lv_has ls 4 [(0, .ref (G 0 1)), (1, .null)] := hl
    refine lv_aload_nN hx hb d_Journal_setFree_0 rfl (lv_at hl 1 rfl) ?_
    refine lv_astore_nN (lv' := [(2, .null), (0, .ref (G 0 1)), (1, .null)]) hx hb d_Journal_setFree_1 rfl hl (by decide) rfl (fun ls hl => ?_)
    refine lv_aload_nN hx hb d_Journal_setFree_2 rfl (lv_at hl 2 rfl) ?_
    refine lv_astore_nN (lv' := [(3, .null), (2, .null), (0, .ref (G 0 1)), (1, .null)]) hx hb d_Journal_setFree_3 rfl hl (by decide) rfl (fun ls hl => ?_)
    refine lv_aload_nN hx hb d_Journal_setFree_4 rfl (lv_at hl 0 rfl) ?_
    refine lv_ifnullN (tgt := 18) hx hb d_Journal_setFree_5 (by decide) ?_
    refine lv_aload_nN hx hb d_Journal_setFree_18 rfl (lv_at hl 1 rfl) ?_
    refine lv_ifnullN (tgt := 35) hx hb d_Journal_setFree_19 (by decide) ?_
    exact rv hC hB rfl d_Journal_setFree_35
  | some h =>
    show CM l y_Journal_setFree b_Journal_setFree 4 none _ D (tyL cI cL cQ) N0 N0 [.ref (G 0 1), .ref h] _ none _ 0 0
    refine met_of (own := R_Journal) (by decide) rfl nwl_ok ?_
    intro p e s m below meth c hC hin hB
    have hx := hC.1
    have hb := hC.2.1
    have hl := lv_entry ([.ref (G 0 1), .ref h]) (n := 4) (Nat.le_of_ble_eq_true rfl)
    rw [lg_entry_eq]
    generalize (lg_sl ([.ref (G 0 1), .ref h]) ++ List.replicate (4 - (lg_sl ([.ref (G 0 1), .ref h])).length) Slot.unset).toArray = ls at hl ⊢
    have hl : lv_has ls 4 [(0, .ref (G 0 1)), (1, .ref h)] := hl
    refine lv_aload_n hx hb d_Journal_setFree_0 rfl (lv_at hl 1 rfl) ?_
    refine lv_astore_n (lv' := [(2, .ref h), (0, .ref (G 0 1)), (1, .ref h)]) hx hb d_Journal_setFree_1 rfl hl (by decide) rfl (fun ls hl => ?_)
    refine lv_aload_n hx hb d_Journal_setFree_2 rfl (lv_at hl 2 rfl) ?_
    refine lv_astore_n (lv' := [(3, .ref h), (2, .ref h), (0, .ref (G 0 1)), (1, .ref h)]) hx hb d_Journal_setFree_3 rfl hl (by decide) rfl (fun ls hl => ?_)
    exact w_Journal_setFree_4 σ π h hC A t (some h) h hch hA (ch_open hch hA h rfl) rfl _ _ hB ls (lv_sub hl [2, 3, 1, 0] rfl)

set_option maxHeartbeats 4000000 in
set_option maxRecDepth 100000 in
theorem c_Journal_keep (σ : SC) (π : PJ) (hπ : RJ π σ) : CM l y_Journal_keep b_Journal_keep 1 none { frames := 1, cells := 0, slots := 0, locals := 23 } D (tyL cI cL cQ) N0 N0 [.ref (G 0 1)] (wsC G cI cL cQ σ π rest) none (pwC G cI cL cQ (m_Journal_keep σ) rest) 0 0 := by
  obtain ⟨LA, hK⟩ := hπ
  obtain ⟨hg1, hg2⟩ := ch_get hK (xn σ 1)
  have ho := ch_open hK.2.1 (fun a h => ap_mem hK.1 h)
  refine met_of (own := R_Journal) (by decide) rfl nwl_ok ?_
  intro p e s m below meth c hC hin hB
  have hx := hC.1
  have hb := hC.2.1
  have hl := lv_entry ([.ref (G 0 1)]) (n := 1) (Nat.le_of_ble_eq_true rfl)
  rw [lg_entry_eq]
  generalize (lg_sl ([.ref (G 0 1)]) ++ List.replicate (1 - (lg_sl ([.ref (G 0 1)])).length) Slot.unset).toArray = ls at hl ⊢
  have hl : lv_has ls 1 [(0, .ref (G 0 1))] := hl
  refine lv_aload_n hx hb d_Journal_keep_0 rfl (lv_at hl 0 rfl) ?_
  refine lv_aload_n hx hb d_Journal_keep_1 rfl (lv_at hl 0 rfl) ?_
  refine lv_aload_n hx hb d_Journal_keep_2 rfl (lv_at hl 0 rfl) ?_
  refine gt (v := .int (xn σ 1)) hC hB _ lkC_Journal rfl i_Journal 2 (by decide) rfl kw_35 rfl d_Journal_keep_3 ?_
  refine kV hC hB _ lkC_Journal rfl (c_Journal_getAct σ π (xn σ 1)) allw_ok mf_Journal_getAct kw_334 ks_2 kw_332 ⟨rfl, rfl, Nat.le_of_ble_eq_true rfl, Nat.le_of_ble_eq_true rfl⟩ rfl rfl hl.1 (Nat.le_of_ble_eq_true rfl) d_Journal_keep_6 ⟨Nat.le_of_ble_eq_true rfl, Nat.le_of_ble_eq_true rfl⟩ (roK fun H locs hB => ?_)
  refine kV hC hB _ lkC_Journal rfl (c_Journal_setFree σ π hg1 hg2) allw_ok mf_Journal_setFree kw_338 ks_3 kw_336 ⟨rfl, rfl, Nat.le_of_ble_eq_true rfl, Nat.le_of_ble_eq_true rfl⟩ rfl rfl hl.1 (Nat.le_of_ble_eq_true rfl) d_Journal_keep_9 ⟨Nat.le_of_ble_eq_true rfl, Nat.le_of_ble_eq_true rfl⟩ (roK fun H locs hB => ?_)
  have hf := frp_fr π (gL LA (xn σ 1)) (gA π (xn σ 1))
  obtain ⟨π', hπ'⟩ : ∃ y, frp π (gL LA (xn σ 1)) (gA π (xn σ 1)) = y := ⟨_, rfl⟩
  rw [hπ'] at hB hf
  obtain ⟨f1, -, f3⟩ := hf
  refine lv_aload_n hx hb d_Journal_keep_12 rfl (lv_at hl 0 rfl) ?_
  refine lv_aload_n hx hb d_Journal_keep_13 rfl (lv_at hl 0 rfl) ?_
  refine gt (v := .int (xn σ 1)) hC hB _ lkC_Journal rfl i_Journal 2 (by decide) rfl kw_35 rfl d_Journal_keep_14 ?_
  refine lv_aload_n hx hb d_Journal_keep_17 rfl (lv_at hl 0 rfl) ?_
  refine gt (v := va_rf π'.2.2.2.1) hC hB _ lkC_Journal rfl i_Journal 3 (by decide) rfl kw_36 rfl d_Journal_keep_18 ?_
  refine kV hC hB _ lkC_Journal rfl (c_Journal_putAct σ π' (xn σ 1) π'.2.2.2.1 (by rw [f1, f3]; exact ho)) allw_ok mf_Journal_putAct kw_342 ks_4 kw_340 ⟨rfl, rfl, Nat.le_of_ble_eq_true rfl, Nat.le_of_ble_eq_true rfl⟩ rfl rfl hl.1 (Nat.le_of_ble_eq_true rfl) d_Journal_keep_21 ⟨Nat.le_of_ble_eq_true rfl, Nat.le_of_ble_eq_true rfl⟩ (roK fun H locs hB => ?_)
  refine lv_aload_n hx hb d_Journal_keep_24 rfl (lv_at hl 0 rfl) ?_
  refine lv_null hx hb d_Journal_keep_25 ?_
  refine pt (ty := .object "SheetTrees$Change") rfl hC hB _ lkC_Journal rfl i_Journal t_Journal t_Journal_ok n_Journal 3 (by decide) rfl rfl kw_36 (by decide +kernel) rfl rfl (Nat.le_of_ble_eq_true rfl) d_Journal_keep_26 setC_open0 (fun H locs hB => ?_)
  refine lv_aload_n hx hb d_Journal_keep_29 rfl (lv_at hl 0 rfl) ?_
  refine lv_aload_n hx hb d_Journal_keep_30 rfl (lv_at hl 0 rfl) ?_
  refine gt (v := .int (xn σ 1)) hC hB _ lkC_Journal rfl i_Journal 2 (by decide) rfl kw_35 rfl d_Journal_keep_31 ?_
  refine lv_iconst (v := 1) hx hb d_Journal_keep_34 (by decide) ?_
  refine lv_iadd hx hb d_Journal_keep_35 ?_
  refine lv_bipush (v := 50) hx hb d_Journal_keep_36 (by decide) ?_
  refine lv_irem hx hb d_Journal_keep_38 (by decide) ?_
  refine pt (ty := .int) rfl hC hB _ lkC_Journal rfl i_Journal t_Journal t_Journal_ok n_Journal 2 (by decide) rfl rfl kw_35 (by decide +kernel) rfl rfl (Nat.le_of_ble_eq_true rfl) d_Journal_keep_39 setC_n1 (fun H locs hB => ?_)
  refine lv_aload_n hx hb d_Journal_keep_42 rfl (lv_at hl 0 rfl) ?_
  refine lv_aload_n hx hb d_Journal_keep_43 rfl (lv_at hl 0 rfl) ?_
  refine gt (v := .int (xn σ 0)) hC hB _ lkC_Journal rfl i_Journal 1 (by decide) rfl kw_34 rfl d_Journal_keep_44 ?_
  refine lv_iconst (v := 1) hx hb d_Journal_keep_47 (by decide) ?_
  refine lv_iadd hx hb d_Journal_keep_48 ?_
  refine lv_bipush (v := 50) hx hb d_Journal_keep_49 (by decide) ?_
  refine va_mmin hx hb (hC.2.2.2.1.trans hl.1.symm) hC.2.2.2.2.1 (hC.2.2.2.2.2.1 _ kw_344) (hC.2.2.2.2.2.1 _ kw_345) (hC.2.2.2.2.2.1 _ kw_5) (hC.2.2.2.2.2.1 _ kw_346) (Nat.le_of_ble_eq_true rfl) (Nat.le_of_ble_eq_true rfl) (Nat.le_of_ble_eq_true rfl) (Nat.le_of_ble_eq_true rfl) d_Journal_keep_51 ?_
  refine pt (ty := .int) rfl hC hB _ lkC_Journal rfl i_Journal t_Journal t_Journal_ok n_Journal 1 (by decide) rfl rfl kw_34 (by decide +kernel) rfl rfl (Nat.le_of_ble_eq_true rfl) d_Journal_keep_54 setC_n0 (fun H locs hB => ?_)
  have hj := jP_fr σ (xn σ 1) (xo σ)
  refine rv hC hB ⟨(π'.1, π'.2.1, gP π' (xn σ 1) π'.2.2.2.1, none, π'.2.2.2.2), rj_keep hK (xn σ 1) hπ', wsC_c hj.1.symm hj.2.1.symm ?_⟩ d_Journal_keep_57
  show va_up (va_up σ.2.2.1 1 _) 0 _ = va_up (va_up (jP σ (xn σ 1) (xo σ)).2.2.1 1 _) 0 _
  rw [hj.2.2.1]
set_option maxHeartbeats 4000000 in
set_option maxRecDepth 100000 in
theorem w_Journal_takeBack_5 {p : Program} {e : Env} {s : State} {m : MethodId} {args : Array Value} {below : List Frame} {meth : Method} {c : Code} {RES : SC} (π : PJ) {A0 : List Nat} {t0 : List Chg} (h0 : ch π.2.1 A0 π.2.2.2.1 t0) (hA0 : ∀ a ∈ A0, a ∈ π.1) (hC : cx D classes (tyL cI cL cQ) NWL ALLW N0 p s m args meth c b_Journal_takeBack 2 none R_Journal) :
    ∀ (A : List Nat) (t : List Chg) (σ : SC) (o : Option Nat), ch π.2.1 A o t → (∀ a ∈ A, a ∈ π.1) → zo (unw t σ) [] = RES → ∀ (H : Heap) (locs : List Loc), bd D classes N0 N0 (wsC G cI cL cQ σ π rest) s H locs → ∀ (ls : Array Slot), lv_has ls 2 [(0, .ref (G 0 1)), (1, va_rf o)] → W p l e { frames := 2, cells := 0, slots := 0, locals := 43 } s m args below meth c H locs 0 0 (MQ below (qx D classes N0 N0 none (fun w => w = wsC G cI cL cQ RES (fo (frp π A0 π.2.2.2.1)) rest)) args s 0 0 (ga N0)) (F0 m 5 ls []) := by
  have hx := hC.1
  have hb := hC.2.1
  intro A
  induction A with
  | nil =>
    intro t σ o hch hA hR H locs hB ls hl
    obtain ⟨e1, e2⟩ := hch
    subst e1
    subst e2
    subst hR
    refine kq_aload_n (x := none) hx hb d_Journal_takeBack_5 rfl (lv_at hl 1 rfl) ?_
    refine lv_ifnullN (tgt := 21) hx hb d_Journal_takeBack_6 (by decide) ?_
    refine lv_aload_n hx hb d_Journal_takeBack_21 rfl (lv_at hl 0 rfl) ?_
    refine lv_aload_n hx hb d_Journal_takeBack_22 rfl (lv_at hl 0 rfl) ?_
    refine gt (v := va_rf π.2.2.2.1) hC hB _ lkC_Journal rfl i_Journal 3 (by decide) rfl kw_36 rfl d_Journal_takeBack_23 ?_
    refine kV hC hB _ lkC_Journal rfl (c_Journal_setFree σ π h0 hA0) allw_ok mf_Journal_setFree kw_338 ks_3 kw_336 ⟨rfl, rfl, Nat.le_of_ble_eq_true rfl, Nat.le_of_ble_eq_true rfl⟩ rfl rfl hl.1 (Nat.le_of_ble_eq_true rfl) d_Journal_takeBack_26 ⟨Nat.le_of_ble_eq_true rfl, Nat.le_of_ble_eq_true rfl⟩ (roK fun H locs hB => ?_)
    refine lv_aload_n hx hb d_Journal_takeBack_29 rfl (lv_at hl 0 rfl) ?_
    refine lv_null hx hb d_Journal_takeBack_30 ?_
    refine pt (ty := .object "SheetTrees$Change") rfl hC hB _ lkC_Journal rfl i_Journal t_Journal t_Journal_ok n_Journal 3 (by decide) rfl rfl kw_36 (by decide +kernel) rfl rfl (Nat.le_of_ble_eq_true rfl) d_Journal_takeBack_31 setC_open0 (fun H locs hB => ?_)
    exact rv hC hB rfl d_Journal_takeBack_34
  | cons a A ih =>
    intro t σ o hch hA hR H locs hB ls hl
    obtain ⟨e1, hk, t', e2, hch⟩ := hch
    subst e1
    subst e2
    have ha := hA a List.mem_cons_self
    obtain ⟨q0, hq0⟩ := lkC_chg (G := G) (cI := cI) (cL := cL) (cQ := cQ) (σ := σ) (rest := rest) ha
    have hl : lv_has ls 2 [(0, .ref (G 0 1)), (1, .ref a)] := hl
    refine lv_aload_n hx hb d_Journal_takeBack_5 rfl (lv_at hl 1 rfl) ?_
    refine lv_ifnull hx hb d_Journal_takeBack_6 ?_
    refine lv_aload_n hx hb d_Journal_takeBack_9 rfl (lv_at hl 1 rfl) ?_
    refine kV hC hB q0 hq0 rfl (c_Change_takeBack σ π ha hk) allw_ok mf_Change_takeBack kw_367 kw_368 kw_366 ⟨rfl, rfl, Nat.le_of_ble_eq_true rfl, Nat.le_of_ble_eq_true rfl⟩ rfl rfl hl.1 (Nat.le_of_ble_eq_true rfl) d_Journal_takeBack_10 ⟨Nat.le_of_ble_eq_true rfl, Nat.le_of_ble_eq_true rfl⟩ (roK fun H locs hB => ?_)
    obtain ⟨q1, hq1⟩ := lkC_chg (G := G) (cI := cI) (cL := cL) (cQ := cQ) (σ := m_Row_restore σ (π.2.1 a).1 (π.2.1 a).2.1 (π.2.1 a).2.2.1) (rest := rest) ha
    refine lv_aload_n hx hb d_Journal_takeBack_13 rfl (lv_at hl 1 rfl) ?_
    refine gtN (v := va_rf (π.2.1 a).2.2.2) hC hB _ hq1 rfl i_Change 3 (by decide) rfl nw_4 rfl d_Journal_takeBack_14 ?_
    refine kq_astore_n (lv' := [(1, va_rf (π.2.1 a).2.2.2), (0, .ref (G 0 1))]) hx hb d_Journal_takeBack_17 rfl hl (by decide) rfl (fun ls hl => ?_)
    refine lv_goto (tgt := 5) hx hb d_Journal_takeBack_18 (by decide) ?_
    exact ih t' _ _ hch (fun b hb => hA b (List.mem_cons_of_mem _ hb)) hR _ _ hB ls (lv_sub hl [1, 0] rfl)
set_option maxHeartbeats 4000000 in
set_option maxRecDepth 100000 in
theorem c_Journal_takeBack (σ : SC) (π : PJ) (hπ : RJ π σ) : CM l y_Journal_takeBack b_Journal_takeBack 2 none { frames := 2, cells := 0, slots := 0, locals := 43 } D (tyL cI cL cQ) N0 N0 [.ref (G 0 1)] (wsC G cI cL cQ σ π rest) none (pwC G cI cL cQ (m_Journal_takeBack σ) rest) 0 0 := by
  obtain ⟨LA, hK⟩ := hπ
  refine met_pw (PW := fun w => w = wsC G cI cL cQ (m_Journal_takeBack σ) (fo (frp π (LA 1) π.2.2.2.1)) rest) ?_ (fun w hw => ⟨_, rj_take (σ' := m_Journal_takeBack σ) hK rfl (xa_takeBack σ), hw⟩)
  have hA0 : ∀ a ∈ LA 1, a ∈ π.1 := fun a h => ap_mem hK.1 h
  refine met_of (own := R_Journal) (by decide) rfl nwl_ok ?_
  intro p e s m below meth c hC hin hB
  have hx := hC.1
  have hb := hC.2.1
  have hl := lv_entry ([.ref (G 0 1)]) (n := 2) (Nat.le_of_ble_eq_true rfl)
  rw [lg_entry_eq]
  generalize (lg_sl ([.ref (G 0 1)]) ++ List.replicate (2 - (lg_sl ([.ref (G 0 1)])).length) Slot.unset).toArray = ls at hl ⊢
  have hl : lv_has ls 2 [(0, .ref (G 0 1))] := hl
  refine lv_aload_n hx hb d_Journal_takeBack_0 rfl (lv_at hl 0 rfl) ?_
  refine gt (v := va_rf π.2.2.2.1) hC hB _ lkC_Journal rfl i_Journal 3 (by decide) rfl kw_36 rfl d_Journal_takeBack_1 ?_
  refine kq_astore_n (lv' := [(1, va_rf π.2.2.2.1), (0, .ref (G 0 1))]) hx hb d_Journal_takeBack_4 rfl hl (by decide) rfl (fun ls hl => ?_)
  exact w_Journal_takeBack_5 π hK.2.1 hA0 hC (LA 1) (xo σ) σ π.2.2.2.1 hK.2.1 hA0 rfl _ _ hB ls (lv_sub hl [1, 0] rfl)
set_option maxHeartbeats 4000000 in
set_option maxRecDepth 100000 in
theorem c_Journal_stepBack (σ : SC) (π : PJ) (hπ : RJ π σ) : CM l y_Journal_stepBack b_Journal_stepBack 1 (some .boolean) { frames := 3, cells := 0, slots := 0, locals := 64 } D (tyL cI cL cQ) N0 N0 [.ref (G 0 1)] (wsC G cI cL cQ σ π rest) (some (.int (bi (m_Journal_stepBack σ).1))) (pwC G cI cL cQ (m_Journal_stepBack σ).2 rest) 0 0 := by
  generalize hR : m_Journal_stepBack σ = RES
  obtain ⟨RV, RS⟩ := RES
  dsimp only
  refine met_of (own := R_Journal) (by decide) rfl nwl_ok ?_
  intro p e s m below meth c hC hin hB
  have hx := hC.1
  have hb := hC.2.1
  have hl := lv_entry ([.ref (G 0 1)]) (n := 1) (Nat.le_of_ble_eq_true rfl)
  rw [lg_entry_eq]
  generalize (lg_sl ([.ref (G 0 1)]) ++ List.replicate (1 - (lg_sl ([.ref (G 0 1)])).length) Slot.unset).toArray = ls at hl ⊢
  have hl : lv_has ls 1 [(0, .ref (G 0 1))] := hl
  rw [m_Journal_stepBack] at hR
  refine lv_aload_n hx hb d_Journal_stepBack_0 rfl (lv_at hl 0 rfl) ?_
  refine gt hC hB _ lkC_Journal rfl i_Journal 1 (by decide) rfl kw_34 rfl d_Journal_stepBack_1 ?_
  refine lv_if_ne (tgt := 9) hx hb d_Journal_stepBack_4 (by decide) (fun c1 => ?_) (fun c1 => ?_)
  · rw [if_neg c1] at hR
    obtain ⟨rfl, rfl⟩ := Prod.mk.inj hR
    refine lv_aload_n hx hb d_Journal_stepBack_9 rfl (lv_at hl 0 rfl) ?_
    refine lv_dup hx hb d_Journal_stepBack_10 rfl ?_
    refine gt hC hB _ lkC_Journal rfl i_Journal 1 (by decide) rfl kw_34 rfl d_Journal_stepBack_11 ?_
    refine lv_iconst (v := 1) hx hb d_Journal_stepBack_14 (by decide) ?_
    refine lv_isub hx hb d_Journal_stepBack_15 ?_
    refine pt (ty := .int) rfl hC hB _ lkC_Journal rfl i_Journal t_Journal t_Journal_ok n_Journal 1 (by decide) rfl rfl kw_34 (by decide +kernel) rfl rfl (Nat.le_of_ble_eq_true rfl) d_Journal_stepBack_16 setC_n0 (fun H locs hB => ?_)
    refine lv_aload_n hx hb d_Journal_stepBack_19 rfl (lv_at hl 0 rfl) ?_
    refine lv_aload_n hx hb d_Journal_stepBack_20 rfl (lv_at hl 0 rfl) ?_
    refine gt (v := .int (xn σ 1)) hC hB _ lkC_Journal rfl i_Journal 2 (by decide) rfl kw_35 rfl d_Journal_stepBack_21 ?_
    refine lv_bipush (v := 50) hx hb d_Journal_stepBack_24 (by decide) ?_
    refine lv_iadd hx hb d_Journal_stepBack_26 ?_
    refine lv_iconst (v := 1) hx hb d_Journal_stepBack_27 (by decide) ?_
    refine lv_isub hx hb d_Journal_stepBack_28 ?_
    refine lv_bipush (v := 50) hx hb d_Journal_stepBack_29 (by decide) ?_
    refine lv_irem hx hb d_Journal_stepBack_31 (by decide) ?_
    refine pt (ty := .int) rfl hC hB _ lkC_Journal rfl i_Journal t_Journal t_Journal_ok n_Journal 2 (by decide) rfl rfl kw_35 (by decide +kernel) rfl rfl (Nat.le_of_ble_eq_true rfl) d_Journal_stepBack_32 (setC_n1 (v := jNx σ)) (fun H locs hB => ?_)
    refine lv_aload_n hx hb d_Journal_stepBack_35 rfl (lv_at hl 0 rfl) ?_
    refine lv_aload_n hx hb d_Journal_stepBack_36 rfl (lv_at hl 0 rfl) ?_
    refine lv_aload_n hx hb d_Journal_stepBack_37 rfl (lv_at hl 0 rfl) ?_
    refine gt (v := .int (jNx σ)) hC hB _ lkC_Journal rfl i_Journal 2 (by decide) rfl kw_35 rfl d_Journal_stepBack_38 ?_
    refine kV hC hB _ lkC_Journal rfl (c_Journal_getAct (zn (zn σ 0 (xn σ 0 - 1)) 1 (jNx σ)) π (jNx σ)) allw_ok mf_Journal_getAct kw_334 ks_2 kw_332 ⟨rfl, rfl, Nat.le_of_ble_eq_true rfl, Nat.le_of_ble_eq_true rfl⟩ rfl rfl hl.1 (Nat.le_of_ble_eq_true rfl) d_Journal_stepBack_41 ⟨Nat.le_of_ble_eq_true rfl, Nat.le_of_ble_eq_true rfl⟩ (roK fun H locs hB => ?_)
    refine pt (ty := .object "SheetTrees$Change") (v := va_rf (gA π (jNx σ))) rfl hC hB _ lkC_Journal rfl i_Journal t_Journal t_Journal_ok n_Journal 3 (by decide) rfl rfl kw_36 (by decide +kernel) (nar_rf _ _) (fit_rf _ _) (Nat.le_of_ble_eq_true rfl) d_Journal_stepBack_44 setC_open (fun H locs hB => ?_)
    refine lv_aload_n hx hb d_Journal_stepBack_47 rfl (lv_at hl 0 rfl) ?_
    refine lv_aload_n hx hb d_Journal_stepBack_48 rfl (lv_at hl 0 rfl) ?_
    refine gt (v := .int (jNx σ)) hC hB _ lkC_Journal rfl i_Journal 2 (by decide) rfl kw_35 rfl d_Journal_stepBack_49 ?_
    refine lv_null hx hb d_Journal_stepBack_52 ?_
    refine kV hC hB _ lkC_Journal rfl (c_Journal_putAct (zn (zn σ 0 (xn σ 0 - 1)) 1 (jNx σ)) (π.1, π.2.1, π.2.2.1, gA π (jNx σ), π.2.2.2.2) (jNx σ) none (fun a h => by cases h)) allw_ok mf_Journal_putAct kw_342 ks_4 kw_340 ⟨rfl, rfl, Nat.le_of_ble_eq_true rfl, Nat.le_of_ble_eq_true rfl⟩ rfl rfl hl.1 (Nat.le_of_ble_eq_true rfl) d_Journal_stepBack_53 ⟨Nat.le_of_ble_eq_true rfl, Nat.le_of_ble_eq_true rfl⟩ (roK fun H locs hB => ?_)
    have hj := jP_fr (zo (zn (zn σ 0 (xn σ 0 - 1)) 1 (jNx σ)) (jA σ (jNx σ))) (jNx σ) []
    rw [wsC_c (σ := zn (zn σ 0 (xn σ 0 - 1)) 1 (jNx σ)) (σ' := jP (zo (zn (zn σ 0 (xn σ 0 - 1)) 1 (jNx σ)) (jA σ (jNx σ))) (jNx σ) []) hj.1.symm hj.2.1.symm hj.2.2.1.symm] at hB
    refine lv_aload_n hx hb d_Journal_stepBack_56 rfl (lv_at hl 0 rfl) ?_
    have hRJ : RJ (π.1, π.2.1, gP (π.1, π.2.1, π.2.2.1, gA π (jNx σ), π.2.2.2.2) (jNx σ) none, gA π (jNx σ), π.2.2.2.2) (jP (zo (zn (zn σ 0 (xn σ 0 - 1)) 1 (jNx σ)) (jA σ (jNx σ))) (jNx σ) []) := rj_step (σ := zn (zn σ 0 (xn σ 0 - 1)) 1 (jNx σ)) hπ (jNx σ)
    refine kV hC hB _ lkC_Journal rfl (c_Journal_takeBack (jP (zo (zn (zn σ 0 (xn σ 0 - 1)) 1 (jNx σ)) (jA σ (jNx σ))) (jNx σ) []) (π.1, π.2.1, gP (π.1, π.2.1, π.2.2.1, gA π (jNx σ), π.2.2.2.2) (jNx σ) none, gA π (jNx σ), π.2.2.2.2) hRJ) allw_ok mf_Journal_takeBack kw_363 kw_364 kw_362 ⟨rfl, rfl, Nat.le_of_ble_eq_true rfl, Nat.le_of_ble_eq_true rfl⟩ rfl rfl hl.1 (Nat.le_of_ble_eq_true rfl) d_Journal_stepBack_57 ⟨Nat.le_of_ble_eq_true rfl, Nat.le_of_ble_eq_true rfl⟩ (fun H locs w hw hB => ?_)
    refine lv_iconst (v := 1) hx hb d_Journal_stepBack_60 (by decide) ?_
    exact rz (b := true) hC hB hw d_Journal_stepBack_61
  · rw [if_pos c1] at hR
    obtain ⟨rfl, rfl⟩ := Prod.mk.inj hR
    refine lv_iconst (v := 0) hx hb d_Journal_stepBack_7 (by decide) ?_
    exact rz (b := false) hC hB ⟨π, hπ, rfl⟩ d_Journal_stepBack_8

theorem cj_takeBack (σ : SC) (π : PJ) (hπ : RJ π σ) : CM l y_Journal_takeBack b_Journal_takeBack 2 none { frames := 2, cells := 0, slots := 0, locals := 43 } D (tyL cI cL cQ) N0 N0 [.ref (G 0 1)] (wsC G cI cL cQ σ π rest) none (pwC G cI cL cQ (m_Journal_takeBack σ) rest) 0 0 := c_Journal_takeBack σ π hπ

end JO
