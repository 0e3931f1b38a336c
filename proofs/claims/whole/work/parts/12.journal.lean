def m_Journal_note (σ : SC) (k : Nat) (x1 : Int32) (x2 : Int64) : SC := zo σ ((k, x1, x2) :: xo σ)
def gA (π : PJ) (x : Int32) : Option Nat := if x < 0 then none else if nI 50 ≤ x then none else π.2.2.1 x.toNatClampNeg
def gP (π : PJ) (x : Int32) (o : Option Nat) : Nat → Option Nat := if x < 0 then π.2.2.1 else if nI 50 ≤ x then π.2.2.1 else va_up π.2.2.1 x.toNatClampNeg o
def jA (σ : SC) (x : Int32) : List Chg := if x < 0 then [] else if nI 50 ≤ x then [] else xa σ x.toNatClampNeg
def jP (σ : SC) (x : Int32) (t : List Chg) : SC := if x < 0 then σ else if nI 50 ≤ x then σ else za σ x.toNatClampNeg t
def m_Journal_keep (σ : SC) : SC := zn (zn (zo (jP σ (xn σ 1) (xo σ)) []) 1 ((xn σ 1 + 1) - (xn σ 1 + 1) / 50 * 50)) 0 (if (50 : Int32) < xn σ 0 + 1 then 50 else xn σ 0 + 1)
/-- the changes taken back, the latest first -/
def unw : List Chg → SC → SC
  | [], σ => σ
  | x :: t, σ => unw t (m_Row_restore σ x.1 x.2.1 x.2.2)
def m_Journal_takeBack (σ : SC) : SC := zo (unw (xo σ) σ) []
def jNx (σ : SC) : Int32 := (xn σ 1 + 50 - 1) - (xn σ 1 + 50 - 1) / 50 * 50
def m_Journal_stepBack (σ : SC) : Bool × SC := if xn σ 0 = 0 then (false, σ) else (true, m_Journal_takeBack (jP (zo (zn (zn σ 0 (xn σ 0 - 1)) 1 (jNx σ)) (jA σ (jNx σ))) (jNx σ) []))
theorem rj_Row_restore {π : PJ} {σ : SC} (h : RJ π σ) (k : Nat) (x0 : Int32) (x1 : Int64) : RJ π (m_Row_restore σ k x0 x1) := by
  unfold m_Row_restore
  split
  · exact h
  · split
    · exact h
    · exact h
theorem rj_unw {π : PJ} : ∀ {t : List Chg} {σ : SC}, RJ π σ → RJ π (unw t σ)
  | [], _, h => h
  | x :: t, _, h => rj_unw (t := t) (rj_Row_restore h x.1 x.2.1 x.2.2)
theorem xn_restore (σ : SC) (k : Nat) (x0 : Int32) (x1 : Int64) : xn (m_Row_restore σ k x0 x1) = xn σ := by
  unfold m_Row_restore
  split
  · rfl
  · split <;> rfl
theorem xa_unw : ∀ (t : List Chg) (σ : SC), xa (unw t σ) = xa σ
  | [], _ => rfl
  | x :: t, σ => by
    rw [unw, xa_unw t]
    unfold m_Row_restore
    split
    · rfl
    · split <;> rfl
theorem xo_takeBack {LP : List Nat} {cg : Nat → Nat × Int32 × Int64 × Option Nat} (σ : SC) : ch LP cg none (xo (m_Journal_takeBack σ)) := rfl
theorem xa_takeBack (σ : SC) : xa (m_Journal_takeBack σ) = xa σ := xa_unw (xo σ) σ
theorem xa_jP (σ σ' : SC) (x : Int32) (t : List Chg) (h : xa σ = xa σ' := by rfl) : xa (jP σ x t) = xa (jP σ' x t) := by
  unfold jP
  split
  · exact h
  · split
    · exact h
    · show va_up (xa σ) _ t = va_up (xa σ') _ t
      rw [h]
theorem ch_open {π : PJ} {o : Option Nat} {t : List Chg} (h : ch π.1 π.2.1 o t) : ∀ a, o = some a → a ∈ π.1 := by
  intro a ha
  cases t with
  | nil => rw [show o = none from h] at ha; cases ha
  | cons x t =>
    obtain ⟨b, c, h1, h2, -⟩ := h
    rw [h1] at ha; cases ha; exact h2
/-- where a change lies -/
theorem lkC_chg {G : Nat → Nat → Nat} {cI cL cQ : ClassId} {σ : SC} {π : PJ} {rest : va_W} {a : Nat} (ha : a ∈ π.1) : ∃ q : Nat, (wsC G cI cL cQ σ π rest)[q]? = some (a, cgC G π a) := by
  apply List.getElem?_of_mem
  unfold wsC
  simp only [List.mem_append]
  exact Or.inr (Or.inr (Or.inr (Or.inr (Or.inr (List.mem_map.mpr ⟨a, ha, rfl⟩)))))
theorem wsC_push {G : Nat → Nat → Nat} {cI cL cQ : ClassId} {σ : SC} {π : PJ} {rest : va_W} {q : Nat} {c : Nat × Int32 × Int64 × Option Nat} (hq : q ∉ π.1) : wsC G cI cL cQ σ π rest ++ [(q, .inr (CI_Change, [.ref (G 1 c.1), .int c.2.1, .long c.2.2.1, va_rf c.2.2.2]))] = wsC G cI cL cQ σ (π.1 ++ [q], va_up π.2.1 q c, π.2.2) rest := by
  have hf : va_up (cgC G π) q (.inr (CI_Change, [.ref (G 1 c.1), .int c.2.1, .long c.2.2.1, va_rf c.2.2.2])) = cgC G (π.1 ++ [q], va_up π.2.1 q c, π.2.2) := by
    funext a
    by_cases h : a = q
    · subst h; simp [va_up, cgC]
    · simp [va_up, cgC, h]
  unfold wsC
  simp only [List.append_assoc]
  rw [va_pl_push hq, hf]
  rfl
theorem not_pool {N0 : Nat} {G : Nat → Nat → Nat} {cI cL cQ : ClassId} {σ : SC} {π : PJ} {rest : va_W} {q : Nat} {x : va_E} (hD : va_D (ga N0) (wsC G cI cL cQ σ π rest ++ [(q, x)])) : q ∉ π.1 := by
  intro h
  obtain ⟨k, hk⟩ := lkC_chg (G := G) (cI := cI) (cL := cL) (cQ := cQ) (σ := σ) (rest := rest) h
  exact nw_fresh hD k hk
section JO
variable {l : Launch} {D : va_G} {N0 : Nat} {G : Nat → Nat → Nat} {cI cL cQ : ClassId} {rest : va_W}

set_option maxHeartbeats 4000000 in
set_option maxRecDepth 100000 in
theorem c_Change_init {ws : va_W} {q0 h0 : Nat} (hq : ws[q0]? = some (h0, .inr (CI_Change, [.null, .int 0, .long 0, .null]))) (r : Nat) (x1 : Int32) (x2 : Int64) (b : Option Nat) : CM l y_Change_init b_Change_init 6 none { frames := 1, cells := 0, slots := 0, locals := 12 } D (tyL cI cL cQ) N0 N0 [.ref h0, .ref r, .int x1, .long x2, va_rf b] ws none (fun w => w = ws.set q0 (h0, .inr (CI_Change, [.ref r, .int x1, .long x2, va_rf b]))) 0 0 := by
  cases b with
  | none =>
    show CM l y_Change_init b_Change_init 6 none _ D (tyL cI cL cQ) N0 N0 [.ref h0, .ref r, .int x1, .long x2, .null] ws none _ 0 0
    refine met_of (own := R_Change) (by decide) rfl nwl_ok ?_
    intro p e s m below meth c hC hin hB
    have hx := hC.1
    have hb := hC.2.1
    have hl := lv_entry ([.ref h0, .ref r, .int x1, .long x2, .null]) (n := 6) (Nat.le_of_ble_eq_true rfl)
    rw [lg_entry_eq]
    generalize (lg_sl ([.ref h0, .ref r, .int x1, .long x2, .null]) ++ List.replicate (6 - (lg_sl ([.ref h0, .ref r, .int x1, .long x2, .null])).length) Slot.unset).toArray = ls at hl ⊢
    have hl : lv_has ls 6 [(0, .ref h0), (1, .ref r), (2, .int x1), (3, .long x2), (5, .null)] := hl
    have hlt : q0 < ws.length := (List.getElem?_eq_some_iff.mp hq).1
    refine lv_aload_n hx hb d_Change_init_0 rfl (lv_at hl 0 rfl) ?_
    refine oi hC kw_305 kw_23 kw_24 hl.1 d_Change_init_1 (Nat.le_of_ble_eq_true rfl) (Nat.le_of_ble_eq_true rfl) ?_
    refine lv_aload_n hx hb d_Change_init_4 rfl (lv_at hl 0 rfl) ?_
    refine lv_aload_n hx hb d_Change_init_5 rfl (lv_at hl 1 rfl) ?_
    refine ptF (ty := .object "SheetTrees$Row") rfl hC (hin rfl) hB q0 hq rfl i_Change t_Change t_Change_ok n_Change 0 (by decide) rfl rfl rfl kw_306 (by decide +kernel) rfl rfl (Nat.le_of_ble_eq_true rfl) d_Change_init_6 rfl (fun H locs hB => ?_)
    refine lv_aload_n hx hb d_Change_init_9 rfl (lv_at hl 0 rfl) ?_
    refine lv_iload_n hx hb d_Change_init_10 rfl (lv_at hl 2 rfl) ?_
    refine ptF (ty := .int) rfl hC (hin rfl) hB q0 (List.getElem?_set_self (by simpa using hlt)) rfl i_Change t_Change t_Change_ok n_Change 1 (by decide) rfl rfl rfl kw_307 (by decide +kernel) rfl rfl (Nat.le_of_ble_eq_true rfl) d_Change_init_11 rfl (fun H locs hB => ?_)
    refine lv_aload_n hx hb d_Change_init_14 rfl (lv_at hl 0 rfl) ?_
    refine lv_lload_n hx hb d_Change_init_15 rfl (lv_at hl 3 rfl) ?_
    refine ptF (ty := .long) rfl hC (hin rfl) hB q0 (List.getElem?_set_self (by simpa using hlt)) rfl i_Change t_Change t_Change_ok n_Change 2 (by decide) rfl rfl rfl kw_308 (by decide +kernel) rfl rfl (Nat.le_of_ble_eq_true rfl) d_Change_init_16 rfl (fun H locs hB => ?_)
    refine lv_aload_n hx hb d_Change_init_19 rfl (lv_at hl 0 rfl) ?_
    refine lv_aloadN hx hb d_Change_init_20 (lv_at hl 4 rfl) ?_
    refine ptF (ty := .object "SheetTrees$Change") rfl hC (hin rfl) hB q0 (List.getElem?_set_self (by simpa using hlt)) rfl i_Change t_Change t_Change_ok n_Change 3 (by decide) rfl rfl rfl kw_309 (by decide +kernel) rfl rfl (Nat.le_of_ble_eq_true rfl) d_Change_init_22 rfl (fun H locs hB => ?_)
    exact rv hC hB (by simp only [List.set_set]; rfl) d_Change_init_25
  | some a0 =>
    show CM l y_Change_init b_Change_init 6 none _ D (tyL cI cL cQ) N0 N0 [.ref h0, .ref r, .int x1, .long x2, .ref a0] ws none _ 0 0
    refine met_of (own := R_Change) (by decide) rfl nwl_ok ?_
    intro p e s m below meth c hC hin hB
    have hx := hC.1
    have hb := hC.2.1
    have hl := lv_entry ([.ref h0, .ref r, .int x1, .long x2, .ref a0]) (n := 6) (Nat.le_of_ble_eq_true rfl)
    rw [lg_entry_eq]
    generalize (lg_sl ([.ref h0, .ref r, .int x1, .long x2, .ref a0]) ++ List.replicate (6 - (lg_sl ([.ref h0, .ref r, .int x1, .long x2, .ref a0])).length) Slot.unset).toArray = ls at hl ⊢
    have hl : lv_has ls 6 [(0, .ref h0), (1, .ref r), (2, .int x1), (3, .long x2), (5, .ref a0)] := hl
    have hlt : q0 < ws.length := (List.getElem?_eq_some_iff.mp hq).1
    refine lv_aload_n hx hb d_Change_init_0 rfl (lv_at hl 0 rfl) ?_
    refine oi hC kw_305 kw_23 kw_24 hl.1 d_Change_init_1 (Nat.le_of_ble_eq_true rfl) (Nat.le_of_ble_eq_true rfl) ?_
    refine lv_aload_n hx hb d_Change_init_4 rfl (lv_at hl 0 rfl) ?_
    refine lv_aload_n hx hb d_Change_init_5 rfl (lv_at hl 1 rfl) ?_
    refine ptF (ty := .object "SheetTrees$Row") rfl hC (hin rfl) hB q0 hq rfl i_Change t_Change t_Change_ok n_Change 0 (by decide) rfl rfl rfl kw_306 (by decide +kernel) rfl rfl (Nat.le_of_ble_eq_true rfl) d_Change_init_6 rfl (fun H locs hB => ?_)
    refine lv_aload_n hx hb d_Change_init_9 rfl (lv_at hl 0 rfl) ?_
    refine lv_iload_n hx hb d_Change_init_10 rfl (lv_at hl 2 rfl) ?_
    refine ptF (ty := .int) rfl hC (hin rfl) hB q0 (List.getElem?_set_self (by simpa using hlt)) rfl i_Change t_Change t_Change_ok n_Change 1 (by decide) rfl rfl rfl kw_307 (by decide +kernel) rfl rfl (Nat.le_of_ble_eq_true rfl) d_Change_init_11 rfl (fun H locs hB => ?_)
    refine lv_aload_n hx hb d_Change_init_14 rfl (lv_at hl 0 rfl) ?_
    refine lv_lload_n hx hb d_Change_init_15 rfl (lv_at hl 3 rfl) ?_
    refine ptF (ty := .long) rfl hC (hin rfl) hB q0 (List.getElem?_set_self (by simpa using hlt)) rfl i_Change t_Change t_Change_ok n_Change 2 (by decide) rfl rfl rfl kw_308 (by decide +kernel) rfl rfl (Nat.le_of_ble_eq_true rfl) d_Change_init_16 rfl (fun H locs hB => ?_)
    refine lv_aload_n hx hb d_Change_init_19 rfl (lv_at hl 0 rfl) ?_
    refine lv_aload hx hb d_Change_init_20 (lv_at hl 4 rfl) ?_
    refine ptF (ty := .object "SheetTrees$Change") rfl hC (hin rfl) hB q0 (List.getElem?_set_self (by simpa using hlt)) rfl i_Change t_Change t_Change_ok n_Change 3 (by decide) rfl rfl rfl kw_309 (by decide +kernel) rfl rfl (Nat.le_of_ble_eq_true rfl) d_Change_init_22 rfl (fun H locs hB => ?_)
    exact rv hC hB (by simp only [List.set_set]; rfl) d_Change_init_25

set_option maxHeartbeats 4000000 in
set_option maxRecDepth 100000 in
theorem c_Journal_note (k : Nat) (hk : k < 19) (σ : SC) (π : PJ) (hπ : RJ π σ) (x1 : Int32) (x2 : Int64) : CM l y_Journal_note b_Journal_note 5 none { frames := 2, cells := 1, slots := 4, locals := 37 } D (tyL cI cL cQ) N0 N0 [.ref (G 0 1), .ref (G 1 k), .int x1, .long x2] (wsC G cI cL cQ σ π rest) none (pwC G cI cL cQ (m_Journal_note σ k x1 x2) rest) 1 4 := by
  refine met_of (own := R_Journal) (by decide) rfl nwl_ok ?_
  intro p e s m below meth c hC hin hB
  have hx := hC.1
  have hb := hC.2.1
  have hl := lv_entry ([.ref (G 0 1), .ref (G 1 k), .int x1, .long x2]) (n := 5) (Nat.le_of_ble_eq_true rfl)
  rw [lg_entry_eq]
  generalize (lg_sl ([.ref (G 0 1), .ref (G 1 k), .int x1, .long x2]) ++ List.replicate (5 - (lg_sl ([.ref (G 0 1), .ref (G 1 k), .int x1, .long x2])).length) Slot.unset).toArray = ls at hl ⊢
  have hl : lv_has ls 5 [(0, .ref (G 0 1)), (1, .ref (G 1 k)), (2, .int x1), (3, .long x2)] := hl
  refine lv_aload_n hx hb d_Journal_note_0 rfl (lv_at hl 0 rfl) ?_
  refine nwo (ci := CI_Change) (fs := [.null, .int 0, .long 0, .null]) rfl hC hB rfl i_Change t_Change t_Change_ok kw_31 kw_301 kw_11 (fun j hj => by rcases (show j = 0 ∨ j = 1 ∨ j = 2 ∨ j = 3 by omega) with rfl | rfl | rfl | rfl <;> rfl) (Nat.le_of_ble_eq_true rfl) (Nat.le_of_ble_eq_true rfl) d_Journal_note_1 (fun q H hB => ?_)
  have hnp := not_pool hB.2.1
  refine lv_dup hx hb d_Journal_note_4 rfl ?_
  refine lv_aload_n hx hb d_Journal_note_5 rfl (lv_at hl 1 rfl) ?_
  refine lv_iload_n hx hb d_Journal_note_6 rfl (lv_at hl 2 rfl) ?_
  refine lv_lload_n hx hb d_Journal_note_7 rfl (lv_at hl 3 rfl) ?_
  refine lv_aload_n hx hb d_Journal_note_8 rfl (lv_at hl 0 rfl) ?_
  refine gt (fs := [.ref (G 0 2), .int (xn σ 0), .int (xn σ 1), va_rf π.2.2.2]) hC hB 1 rfl rfl i_Journal 3 (by decide) rfl kw_36 rfl d_Journal_note_9 ?_
  refine kI hC hB (c_Change_init (q0 := (wsC G cI cL cQ σ π rest).length) (by simp) (G 1 k) x1 x2 π.2.2.2) allw_ok mf_Change_init kw_303 rfl kw_302 ⟨rfl, rfl, Nat.le_of_ble_eq_true rfl, Nat.le_of_ble_eq_true rfl⟩ rfl rfl hl.1 (Nat.le_of_ble_eq_true rfl) d_Journal_note_12 ⟨Nat.le_of_ble_eq_true rfl, Nat.le_of_ble_eq_true rfl⟩ (fun H locs w hw hB => ?_)
  have hw2 : w = wsC G cI cL cQ σ (π.1 ++ [q], va_up π.2.1 q (k, x1, x2, π.2.2.2), π.2.2) rest := by
    rw [hw, List.set_append_right _ _ (Nat.le_refl _), Nat.sub_self]
    exact wsC_push (c := (k, x1, x2, π.2.2.2)) hnp
  subst hw2
  refine pt (ty := .object "SheetTrees$Change") rfl hC hB _ lkC_Journal rfl i_Journal t_Journal t_Journal_ok n_Journal 3 (by decide) rfl rfl kw_36 (by decide +kernel) rfl rfl (Nat.le_of_ble_eq_true rfl) d_Journal_note_15 (ws' := wsC G cI cL cQ σ (π.1 ++ [q], va_up π.2.1 q (k, x1, x2, π.2.2.2), π.2.2.1, some q) rest) rfl (fun H locs hB => ?_)
  exact rv hC hB ⟨_, ⟨⟨q, π.2.2.2, rfl, List.mem_append_right _ List.mem_cons_self, va_up_self _ _ _, hk, ch_push hnp hπ.1⟩, fun j => ch_push hnp (hπ.2 j)⟩, rfl⟩ d_Journal_note_18

set_option maxHeartbeats 4000000 in
set_option maxRecDepth 100000 in
theorem c_Change_takeBack (σ : SC) (π : PJ) {a k : Nat} {i : Int32} {o : Int64} {b : Option Nat} (ha : a ∈ π.1) (hc : π.2.1 a = (k, i, o, b)) (hk : k < 19) : CM l y_Change_takeBack b_Change_takeBack 1 none { frames := 1, cells := 0, slots := 0, locals := 23 } D (tyL cI cL cQ) N0 N0 [.ref a] (wsC G cI cL cQ σ π rest) none (fun w => w = wsC G cI cL cQ (m_Row_restore σ k i o) π rest) 0 0 := by
  obtain ⟨q0, hq0⟩ := lkC_chg (G := G) (cI := cI) (cL := cL) (cQ := cQ) (σ := σ) (rest := rest) ha
  have hq1 : (wsC G cI cL cQ σ π rest)[q0]? = some (a, .inr (CI_Change, [.ref (G 1 k), .int i, .long o, va_rf b])) := by
    rw [hq0]; unfold cgC; rw [hc]
  refine met_of (own := R_Change) (by decide) rfl nwl_ok ?_
  intro p e s m below meth c hC hin hB
  have hx := hC.1
  have hb := hC.2.1
  have hl := lv_entry ([.ref a]) (n := 1) (Nat.le_of_ble_eq_true rfl)
  rw [lg_entry_eq]
  generalize (lg_sl ([.ref a]) ++ List.replicate (1 - (lg_sl ([.ref a])).length) Slot.unset).toArray = ls at hl ⊢
  have hl : lv_has ls 1 [(0, .ref a)] := hl
  refine lv_aload_n hx hb d_Change_takeBack_0 rfl (lv_at hl 0 rfl) ?_
  refine gt hC hB _ hq1 rfl i_Change 0 (by decide) rfl kw_306 rfl d_Change_takeBack_1 ?_
  refine lv_aload_n hx hb d_Change_takeBack_4 rfl (lv_at hl 0 rfl) ?_
  refine gt hC hB _ hq1 rfl i_Change 1 (by decide) rfl kw_307 rfl d_Change_takeBack_5 ?_
  refine lv_aload_n hx hb d_Change_takeBack_8 rfl (lv_at hl 0 rfl) ?_
  refine gt hC hB _ hq1 rfl i_Change 2 (by decide) rfl kw_308 rfl d_Change_takeBack_9 ?_
  refine kV hC hB _ (lkC_row hk) rfl (c_Row_restore k hk σ π i o) allw_ok mf_Row_restore kw_74 kw_75 kw_359 ⟨rfl, rfl, Nat.le_of_ble_eq_true rfl, Nat.le_of_ble_eq_true rfl⟩ rfl rfl hl.1 (Nat.le_of_ble_eq_true rfl) d_Change_takeBack_12 ⟨Nat.le_of_ble_eq_true rfl, Nat.le_of_ble_eq_true rfl⟩ (roK fun H locs hB => ?_)
  exact rv hC hB rfl d_Change_takeBack_15

set_option maxHeartbeats 4000000 in
set_option maxRecDepth 100000 in
theorem c_Journal_getAct (σ : SC) (π : PJ) (x : Int32) : CM l y_Journal_getAct b_Journal_getAct 2 (some (.object "SheetTrees$Change")) { frames := 0, cells := 0, slots := 0, locals := 0 } D (tyL cI cL cQ) N0 N0 [.ref (G 0 1), .int x] (wsC G cI cL cQ σ π rest) (some (va_rf (gA π x))) (fun w => w = wsC G cI cL cQ σ π rest) 0 0 := by
  generalize hR : gA π x = RES
  refine met_of (own := R_Journal) (by decide) rfl nwl_ok ?_
  intro p e s m below meth c hC hin hB
  have hx := hC.1
  have hb := hC.2.1
  have hl := lv_entry ([.ref (G 0 1), .int x]) (n := 2) (Nat.le_of_ble_eq_true rfl)
  rw [lg_entry_eq]
  generalize (lg_sl ([.ref (G 0 1), .int x]) ++ List.replicate (2 - (lg_sl ([.ref (G 0 1), .int x])).length) Slot.unset).toArray = ls at hl ⊢
  have hl : lv_has ls 2 [(0, .ref (G 0 1)), (1, .int x)] := hl
  rw [gA] at hR
  refine lv_iload_n hx hb d_Journal_getAct_0 rfl (lv_at hl 1 rfl) ?_
  refine lv_if_lt (tgt := 22) hx hb d_Journal_getAct_1 (by decide) (fun c1 => ?_) (fun c1 => ?_)
  · rw [if_pos c1] at hR
    subst hR
    refine lv_null hx hb d_Journal_getAct_22 ?_
    exact ra (x := none) hC hB rfl d_Journal_getAct_23
  rw [if_neg c1] at hR
  refine lv_iload_n hx hb d_Journal_getAct_4 rfl (lv_at hl 1 rfl) ?_
  refine lv_aload_n hx hb d_Journal_getAct_5 rfl (lv_at hl 0 rfl) ?_
  refine gt hC hB _ lkC_Journal rfl i_Journal 0 (by decide) rfl kw_33 rfl d_Journal_getAct_6 ?_
  refine va_alen hx hb hC.2.2.2.2.2.2.2.1.1 hB.1 _ 2 lkC_acts rfl (v := nI 50) rfl d_Journal_getAct_9 ?_
  refine lv_icmp_ge (tgt := 22) hx hb d_Journal_getAct_10 (by decide) (fun c2 => ?_) (fun c2 => ?_)
  · rw [if_pos c2] at hR
    subst hR
    refine lv_null hx hb d_Journal_getAct_22 ?_
    exact ra (x := none) hC hB rfl d_Journal_getAct_23
  rw [if_neg c2] at hR
  subst hR
  refine lv_aload_n hx hb d_Journal_getAct_13 rfl (lv_at hl 0 rfl) ?_
  refine gt hC hB _ lkC_Journal rfl i_Journal 0 (by decide) rfl kw_33 rfl d_Journal_getAct_14 ?_
  refine lv_iload_n hx hb d_Journal_getAct_17 rfl (lv_at hl 1 rfl) ?_
  refine va_aldq (C := "SheetTrees$Change") hx hb hC.2.2.2.2.2.2.2.1.1 hB.1 _ 2 lkC_acts rfl (vin c1 c2 (by decide)) d_Journal_getAct_18 ?_
  refine lv_goto (tgt := 23) hx hb d_Journal_getAct_19 (by decide) ?_
  exact ra hC hB rfl d_Journal_getAct_23

theorem setC_acts {σ : SC} {π : PJ} {x : Int32} {o : Option Nat} : (wsC G cI cL cQ σ π rest).set 2 (G 0 2, .inl (cQ, 50, .inr (.inr (.inr (.inr (va_up π.2.2.1 x.toNatClampNeg o)))))) = wsC G cI cL cQ σ (π.1, π.2.1, va_up π.2.2.1 x.toNatClampNeg o, π.2.2.2) rest := rfl
set_option maxHeartbeats 4000000 in
set_option maxRecDepth 100000 in
theorem c_Journal_putAct (σ : SC) (π : PJ) (x : Int32) (o : Option Nat) (ho : ∀ a, o = some a → a ∈ π.1) : CM l y_Journal_putAct b_Journal_putAct 3 none { frames := 0, cells := 0, slots := 0, locals := 0 } D (tyL cI cL cQ) N0 N0 [.ref (G 0 1), .int x, va_rf o] (wsC G cI cL cQ σ π rest) none (fun w => w = wsC G cI cL cQ σ (π.1, π.2.1, gP π x o, π.2.2.2) rest) 0 0 := by
  generalize hR : gP π x o = RES
  rw [gP] at hR
  cases o with
  | none =>
    show CM l y_Journal_putAct b_Journal_putAct 3 none _ D (tyL cI cL cQ) N0 N0 [.ref (G 0 1), .int x, .null] _ none _ 0 0
    refine met_of (own := R_Journal) (by decide) rfl nwl_ok ?_
    intro p e s m below meth c hC hin hB
    have hx := hC.1
    have hb := hC.2.1
    have hl := lv_entry ([.ref (G 0 1), .int x, .null]) (n := 3) (Nat.le_of_ble_eq_true rfl)
    rw [lg_entry_eq]
    generalize (lg_sl ([.ref (G 0 1), .int x, .null]) ++ List.replicate (3 - (lg_sl ([.ref (G 0 1), .int x, .null])).length) Slot.unset).toArray = ls at hl ⊢
    have hl : lv_has ls 3 [(0, .ref (G 0 1)), (1, .int x), (2, .null)] := hl
    refine lv_iload_n hx hb d_Journal_putAct_0 rfl (lv_at hl 1 rfl) ?_
    refine lv_if_lt (tgt := 20) hx hb d_Journal_putAct_1 (by decide) (fun c1 => ?_) (fun c1 => ?_)
    · rw [if_pos c1] at hR
      subst hR
      exact rv hC hB rfl d_Journal_putAct_20
    rw [if_neg c1] at hR
    refine lv_iload_n hx hb d_Journal_putAct_4 rfl (lv_at hl 1 rfl) ?_
    refine lv_aload_n hx hb d_Journal_putAct_5 rfl (lv_at hl 0 rfl) ?_
    refine gt hC hB _ lkC_Journal rfl i_Journal 0 (by decide) rfl kw_33 rfl d_Journal_putAct_6 ?_
    refine va_alen hx hb hC.2.2.2.2.2.2.2.1.1 hB.1 _ 2 lkC_acts rfl (v := nI 50) rfl d_Journal_putAct_9 ?_
    refine lv_icmp_ge (tgt := 20) hx hb d_Journal_putAct_10 (by decide) (fun c2 => ?_) (fun c2 => ?_)
    · rw [if_pos c2] at hR
      subst hR
      exact rv hC hB rfl d_Journal_putAct_20
    rw [if_neg c2] at hR
    subst hR
    refine lv_aload_n hx hb d_Journal_putAct_13 rfl (lv_at hl 0 rfl) ?_
    refine gt hC hB _ lkC_Journal rfl i_Journal 0 (by decide) rfl kw_33 rfl d_Journal_putAct_14 ?_
    refine lv_iload_n hx hb d_Journal_putAct_17 rfl (lv_at hl 1 rfl) ?_
    refine lv_aload_nN hx hb d_Journal_putAct_18 rfl (lv_at hl 2 rfl) ?_
    refine va_astqN (C := "SheetTrees$Change") hx hb hC.2.2.2.2.2.2.2.1.1 hB.1 hB.2.1 hB.2.2 _ 2 lkC_acts rfl (vin c1 c2 (by decide)) d_Journal_putAct_19 (fun H locs h1 h2 h3 => ?_)
    rw [setC_acts] at h1 h2
    exact rv hC ⟨h1, h2, h3⟩ rfl d_Journal_putAct_20
  | some a =>
    show CM l y_Journal_putAct b_Journal_putAct 3 none _ D (tyL cI cL cQ) N0 N0 [.ref (G 0 1), .int x, .ref a] _ none _ 0 0
    refine met_of (own := R_Journal) (by decide) rfl nwl_ok ?_
    intro p e s m below meth c hC hin hB
    have hx := hC.1
    have hb := hC.2.1
    have hl := lv_entry ([.ref (G 0 1), .int x, .ref a]) (n := 3) (Nat.le_of_ble_eq_true rfl)
    rw [lg_entry_eq]
    generalize (lg_sl ([.ref (G 0 1), .int x, .ref a]) ++ List.replicate (3 - (lg_sl ([.ref (G 0 1), .int x, .ref a])).length) Slot.unset).toArray = ls at hl ⊢
    have hl : lv_has ls 3 [(0, .ref (G 0 1)), (1, .int x), (2, .ref a)] := hl
    refine lv_iload_n hx hb d_Journal_putAct_0 rfl (lv_at hl 1 rfl) ?_
    refine lv_if_lt (tgt := 20) hx hb d_Journal_putAct_1 (by decide) (fun c1 => ?_) (fun c1 => ?_)
    · rw [if_pos c1] at hR
      subst hR
      exact rv hC hB rfl d_Journal_putAct_20
    rw [if_neg c1] at hR
    refine lv_iload_n hx hb d_Journal_putAct_4 rfl (lv_at hl 1 rfl) ?_
    refine lv_aload_n hx hb d_Journal_putAct_5 rfl (lv_at hl 0 rfl) ?_
    refine gt hC hB _ lkC_Journal rfl i_Journal 0 (by decide) rfl kw_33 rfl d_Journal_putAct_6 ?_
    refine va_alen hx hb hC.2.2.2.2.2.2.2.1.1 hB.1 _ 2 lkC_acts rfl (v := nI 50) rfl d_Journal_putAct_9 ?_
    refine lv_icmp_ge (tgt := 20) hx hb d_Journal_putAct_10 (by decide) (fun c2 => ?_) (fun c2 => ?_)
    · rw [if_pos c2] at hR
      subst hR
      exact rv hC hB rfl d_Journal_putAct_20
    rw [if_neg c2] at hR
    subst hR
    refine lv_aload_n hx hb d_Journal_putAct_13 rfl (lv_at hl 0 rfl) ?_
    refine gt hC hB _ lkC_Journal rfl i_Journal 0 (by decide) rfl kw_33 rfl d_Journal_putAct_14 ?_
    refine lv_iload_n hx hb d_Journal_putAct_17 rfl (lv_at hl 1 rfl) ?_
    refine lv_aload_n hx hb d_Journal_putAct_18 rfl (lv_at hl 2 rfl) ?_
    obtain ⟨q0, hq0⟩ := lkC_chg (G := G) (cI := cI) (cL := cL) (cQ := cQ) (σ := σ) (rest := rest) (ho a rfl)
    refine va_astq (r := (R_Change, F_Change, 4)) hx hb hC.2.2.2.2.2.2.2.1.1 hB.1 hB.2.1 hB.2.2 _ 2 q0 CI_Change lkC_acts rfl hq0 rfl (vin c1 c2 (by decide)) d_Journal_putAct_19 (fun H locs h1 h2 h3 => ?_)
    rw [setC_acts] at h1 h2
    exact rv hC ⟨h1, h2, h3⟩ rfl d_Journal_putAct_20

theorem wsC_c {σ σ' : SC} {π : PJ} (h1 : σ.1 = σ'.1) (h2 : σ.2.1 = σ'.2.1) (h3 : σ.2.2.1 = σ'.2.2.1) : wsC G cI cL cQ σ π rest = wsC G cI cL cQ σ' π rest := by
  obtain ⟨a, b, c, d⟩ := σ
  obtain ⟨a', b', c', d'⟩ := σ'
  dsimp only at h1 h2 h3
  subst h1; subst h2; subst h3
  rfl
theorem jP_fr (σ : SC) (x : Int32) (t : List Chg) : (jP σ x t).1 = σ.1 ∧ (jP σ x t).2.1 = σ.2.1 ∧ (jP σ x t).2.2.1 = σ.2.2.1 ∧ (jP σ x t).2.2.2.2 = σ.2.2.2.2 := by
  unfold jP
  split
  · exact ⟨rfl, rfl, rfl, rfl⟩
  · split <;> exact ⟨rfl, rfl, rfl, rfl⟩
theorem ch_put {π : PJ} {σ : SC} {x : Int32} {t : List Chg} {o : Option Nat} (h : ∀ j, ch π.1 π.2.1 (π.2.2.1 j) (xa σ j)) (ho : ch π.1 π.2.1 o t) : ∀ j, ch π.1 π.2.1 (gP π x o j) (xa (jP σ x t) j) := by
  intro j
  unfold gP jP
  split
  · exact h j
  · split
    · exact h j
    · by_cases hj : j = x.toNatClampNeg
      · subst hj
        show ch π.1 π.2.1 (va_up π.2.2.1 _ o _) (va_up (xa σ) _ t _)
        rw [va_up_self, va_up_self]; exact ho
      · show ch π.1 π.2.1 (va_up π.2.2.1 _ o j) (va_up (xa σ) _ t j)
        rw [va_up_ne _ _ hj, va_up_ne _ _ hj]; exact h j
theorem ch_get {π : PJ} {σ : SC} {x : Int32} (h : ∀ j, ch π.1 π.2.1 (π.2.2.1 j) (xa σ j)) : ch π.1 π.2.1 (gA π x) (jA σ x) := by
  unfold gA jA
  split
  · rfl
  · split
    · rfl
    · exact h _
theorem setC_open {σ : SC} {π : PJ} {o : Option Nat} : (wsC G cI cL cQ σ π rest).set 1 (G 0 1, .inr (CI_Journal, ([.ref (G 0 2), .int (xn σ 0), .int (xn σ 1), va_rf π.2.2.2] : List Value).set 3 (va_rf o))) = wsC G cI cL cQ σ (π.1, π.2.1, π.2.2.1, o) rest := rfl
theorem setC_open0 {σ : SC} {π : PJ} : (wsC G cI cL cQ σ π rest).set 1 (G 0 1, .inr (CI_Journal, ([.ref (G 0 2), .int (xn σ 0), .int (xn σ 1), va_rf π.2.2.2] : List Value).set 3 .null)) = wsC G cI cL cQ σ (π.1, π.2.1, π.2.2.1, none) rest := rfl
set_option maxHeartbeats 4000000 in
set_option maxRecDepth 100000 in
theorem c_Journal_keep (σ : SC) (π : PJ) (hπ : RJ π σ) : CM l y_Journal_keep b_Journal_keep 1 none { frames := 1, cells := 0, slots := 0, locals := 22 } D (tyL cI cL cQ) N0 N0 [.ref (G 0 1)] (wsC G cI cL cQ σ π rest) none (pwC G cI cL cQ (m_Journal_keep σ) rest) 0 0 := by
  refine met_of (own := R_Journal) (by decide) rfl nwl_ok ?_
  intro p e s m below meth c hC hin hB
  have hx := hC.1
  have hb := hC.2.1
  have hl := lv_entry ([.ref (G 0 1)]) (n := 1) (Nat.le_of_ble_eq_true rfl)
  rw [lg_entry_eq]
  generalize (lg_sl ([.ref (G 0 1)]) ++ List.replicate (1 - (lg_sl ([.ref (G 0 1)])).length) Slot.unset).toArray = ls at hl ⊢
  have hl : lv_has ls 1 [(0, .ref (G 0 1))] := hl
  refine lv_aload_n hx hb d_Journal_keep_0 rfl (lv_at hl 0 rfl) ?_
  refine lv_aload_n hx hb d_Journal_keep_1 rfl (lv_at hl 0 rfl) ?_
  refine gt hC hB _ lkC_Journal rfl i_Journal 2 (by decide) rfl kw_35 rfl d_Journal_keep_2 ?_
  refine lv_aload_n hx hb d_Journal_keep_5 rfl (lv_at hl 0 rfl) ?_
  refine gt hC hB _ lkC_Journal rfl i_Journal 3 (by decide) rfl kw_36 rfl d_Journal_keep_6 ?_
  refine kV hC hB _ lkC_Journal rfl (c_Journal_putAct σ π (xn σ 1) π.2.2.2 (ch_open hπ.1)) allw_ok mf_Journal_putAct kw_327 ks_2 kw_325 ⟨rfl, rfl, Nat.le_of_ble_eq_true rfl, Nat.le_of_ble_eq_true rfl⟩ rfl rfl hl.1 (Nat.le_of_ble_eq_true rfl) d_Journal_keep_9 ⟨Nat.le_of_ble_eq_true rfl, Nat.le_of_ble_eq_true rfl⟩ (roK fun H locs hB => ?_)
  refine lv_aload_n hx hb d_Journal_keep_12 rfl (lv_at hl 0 rfl) ?_
  refine lv_null hx hb d_Journal_keep_13 ?_
  refine pt (ty := .object "SheetTrees$Change") rfl hC hB _ lkC_Journal rfl i_Journal t_Journal t_Journal_ok n_Journal 3 (by decide) rfl rfl kw_36 (by decide +kernel) rfl rfl (Nat.le_of_ble_eq_true rfl) d_Journal_keep_14 setC_open0 (fun H locs hB => ?_)
  refine lv_aload_n hx hb d_Journal_keep_17 rfl (lv_at hl 0 rfl) ?_
  refine lv_aload_n hx hb d_Journal_keep_18 rfl (lv_at hl 0 rfl) ?_
  refine gt hC hB _ lkC_Journal rfl i_Journal 2 (by decide) rfl kw_35 rfl d_Journal_keep_19 ?_
  refine lv_iconst (v := 1) hx hb d_Journal_keep_22 (by decide) ?_
  refine lv_iadd hx hb d_Journal_keep_23 ?_
  refine lv_bipush (v := 50) hx hb d_Journal_keep_24 (by decide) ?_
  refine lv_irem hx hb d_Journal_keep_26 (by decide) ?_
  refine pt (ty := .int) rfl hC hB _ lkC_Journal rfl i_Journal t_Journal t_Journal_ok n_Journal 2 (by decide) rfl rfl kw_35 (by decide +kernel) rfl rfl (Nat.le_of_ble_eq_true rfl) d_Journal_keep_27 setC_n1 (fun H locs hB => ?_)
  refine lv_aload_n hx hb d_Journal_keep_30 rfl (lv_at hl 0 rfl) ?_
  refine lv_aload_n hx hb d_Journal_keep_31 rfl (lv_at hl 0 rfl) ?_
  refine gt (v := .int (xn σ 0)) hC hB _ lkC_Journal rfl i_Journal 1 (by decide) rfl kw_34 rfl d_Journal_keep_32 ?_
  refine lv_iconst (v := 1) hx hb d_Journal_keep_35 (by decide) ?_
  refine lv_iadd hx hb d_Journal_keep_36 ?_
  refine lv_bipush (v := 50) hx hb d_Journal_keep_37 (by decide) ?_
  refine va_mmin hx hb (hC.2.2.2.1.trans hl.1.symm) hC.2.2.2.2.1 (hC.2.2.2.2.2.1 _ kw_329) (hC.2.2.2.2.2.1 _ kw_330) (hC.2.2.2.2.2.1 _ kw_5) (hC.2.2.2.2.2.1 _ kw_331) (Nat.le_of_ble_eq_true rfl) (Nat.le_of_ble_eq_true rfl) (Nat.le_of_ble_eq_true rfl) (Nat.le_of_ble_eq_true rfl) d_Journal_keep_39 ?_
  refine pt (ty := .int) rfl hC hB _ lkC_Journal rfl i_Journal t_Journal t_Journal_ok n_Journal 1 (by decide) rfl rfl kw_34 (by decide +kernel) rfl rfl (Nat.le_of_ble_eq_true rfl) d_Journal_keep_42 setC_n0 (fun H locs hB => ?_)
  have hj := jP_fr σ (xn σ 1) (xo σ)
  refine rv hC hB ⟨(π.1, π.2.1, gP π (xn σ 1) π.2.2.2, none), ⟨rfl, ch_put hπ.2 hπ.1⟩, wsC_c hj.1.symm hj.2.1.symm ?_⟩ d_Journal_keep_45
  show va_up (va_up σ.2.2.1 1 _) 0 _ = va_up (va_up (jP σ (xn σ 1) (xo σ)).2.2.1 1 _) 0 _
  rw [hj.2.2.1]
set_option maxHeartbeats 4000000 in
set_option maxRecDepth 100000 in
theorem w_Journal_takeBack_5 {p : Program} {e : Env} {s : State} {m : MethodId} {args : Array Value} {below : List Frame} {meth : Method} {c : Code} {RES : SC} (π : PJ) (hC : cx D classes (tyL cI cL cQ) NWL ALLW N0 p s m args meth c b_Journal_takeBack 2 none R_Journal) :
    ∀ (t : List Chg) (σ : SC) (o : Option Nat), ch π.1 π.2.1 o t → zo (unw t σ) [] = RES → ∀ (H : Heap) (locs : List Loc), bd D classes N0 N0 (wsC G cI cL cQ σ π rest) s H locs → ∀ (ls : Array Slot), lv_has ls 2 [(0, .ref (G 0 1)), (1, va_rf o)] → W p l e { frames := 2, cells := 0, slots := 0, locals := 43 } s m args below meth c H locs 0 0 (MQ below (qx D classes N0 N0 none (fun w => w = wsC G cI cL cQ RES (π.1, π.2.1, π.2.2.1, none) rest)) args s 0 0 (ga N0)) (F0 m 5 ls []) := by
  have hx := hC.1
  have hb := hC.2.1
  intro t
  induction t with
  | nil =>
    intro σ o hch hR H locs hB ls hl
    have ho : o = none := hch
    subst ho
    subst hR
    refine kq_aload_n (x := none) hx hb d_Journal_takeBack_5 rfl (lv_at hl 1 rfl) ?_
    refine lv_ifnullN (tgt := 21) hx hb d_Journal_takeBack_6 (by decide) ?_
    refine lv_aload_n hx hb d_Journal_takeBack_21 rfl (lv_at hl 0 rfl) ?_
    refine lv_null hx hb d_Journal_takeBack_22 ?_
    refine pt (ty := .object "SheetTrees$Change") rfl hC hB _ lkC_Journal rfl i_Journal t_Journal t_Journal_ok n_Journal 3 (by decide) rfl rfl kw_36 (by decide +kernel) rfl rfl (Nat.le_of_ble_eq_true rfl) d_Journal_takeBack_23 setC_open0 (fun H locs hB => ?_)
    exact rv hC hB rfl d_Journal_takeBack_26
  | cons x t ih =>
    intro σ o hch hR H locs hB ls hl
    obtain ⟨a, b, rfl, ha, hc, hk, hch⟩ := hch
    obtain ⟨q0, hq0⟩ := lkC_chg (G := G) (cI := cI) (cL := cL) (cQ := cQ) (σ := σ) (rest := rest) ha
    have hl : lv_has ls 2 [(0, .ref (G 0 1)), (1, .ref a)] := hl
    refine lv_aload_n hx hb d_Journal_takeBack_5 rfl (lv_at hl 1 rfl) ?_
    refine lv_ifnull hx hb d_Journal_takeBack_6 ?_
    refine lv_aload_n hx hb d_Journal_takeBack_9 rfl (lv_at hl 1 rfl) ?_
    refine kV hC hB q0 hq0 rfl (c_Change_takeBack σ π ha hc hk) allw_ok mf_Change_takeBack kw_356 kw_357 kw_355 ⟨rfl, rfl, Nat.le_of_ble_eq_true rfl, Nat.le_of_ble_eq_true rfl⟩ rfl rfl hl.1 (Nat.le_of_ble_eq_true rfl) d_Journal_takeBack_10 ⟨Nat.le_of_ble_eq_true rfl, Nat.le_of_ble_eq_true rfl⟩ (roK fun H locs hB => ?_)
    obtain ⟨q1, hq1⟩ := lkC_chg (G := G) (cI := cI) (cL := cL) (cQ := cQ) (σ := m_Row_restore σ x.1 x.2.1 x.2.2) (rest := rest) ha
    have hq2 : (wsC G cI cL cQ (m_Row_restore σ x.1 x.2.1 x.2.2) π rest)[q1]? = some (a, .inr (CI_Change, [.ref (G 1 x.1), .int x.2.1, .long x.2.2, va_rf b])) := by
      rw [hq1]; unfold cgC; rw [hc]
    refine lv_aload_n hx hb d_Journal_takeBack_13 rfl (lv_at hl 1 rfl) ?_
    refine gtN hC hB _ hq2 rfl i_Change 3 (by decide) rfl nw_3 rfl d_Journal_takeBack_14 ?_
    refine kq_astore_n (lv' := [(1, va_rf b), (0, .ref (G 0 1))]) hx hb d_Journal_takeBack_17 rfl hl (by decide) rfl (fun ls hl => ?_)
    refine lv_goto (tgt := 5) hx hb d_Journal_takeBack_18 (by decide) ?_
    exact ih _ b hch hR _ _ hB ls (lv_sub hl [1, 0] rfl)
set_option maxHeartbeats 4000000 in
set_option maxRecDepth 100000 in
theorem c_Journal_takeBack (σ : SC) (π : PJ) (hπ : ch π.1 π.2.1 π.2.2.2 (xo σ)) : CM l y_Journal_takeBack b_Journal_takeBack 2 none { frames := 2, cells := 0, slots := 0, locals := 43 } D (tyL cI cL cQ) N0 N0 [.ref (G 0 1)] (wsC G cI cL cQ σ π rest) none (fun w => w = wsC G cI cL cQ (m_Journal_takeBack σ) (π.1, π.2.1, π.2.2.1, none) rest) 0 0 := by
  refine met_of (own := R_Journal) (by decide) rfl nwl_ok ?_
  intro p e s m below meth c hC hin hB
  have hx := hC.1
  have hb := hC.2.1
  have hl := lv_entry ([.ref (G 0 1)]) (n := 2) (Nat.le_of_ble_eq_true rfl)
  rw [lg_entry_eq]
  generalize (lg_sl ([.ref (G 0 1)]) ++ List.replicate (2 - (lg_sl ([.ref (G 0 1)])).length) Slot.unset).toArray = ls at hl ⊢
  have hl : lv_has ls 2 [(0, .ref (G 0 1))] := hl
  refine lv_aload_n hx hb d_Journal_takeBack_0 rfl (lv_at hl 0 rfl) ?_
  refine gt hC hB _ lkC_Journal rfl i_Journal 3 (by decide) rfl kw_36 rfl d_Journal_takeBack_1 ?_
  refine kq_astore_n (lv' := [(1, va_rf π.2.2.2), (0, .ref (G 0 1))]) hx hb d_Journal_takeBack_4 rfl hl (by decide) rfl (fun ls hl => ?_)
  exact w_Journal_takeBack_5 π hC (xo σ) σ π.2.2.2 hπ rfl _ _ hB ls (lv_sub hl [1, 0] rfl)
set_option maxHeartbeats 4000000 in
set_option maxRecDepth 100000 in
theorem c_Journal_stepBack (σ : SC) (π : PJ) (hπ : RJ π σ) : CM l y_Journal_stepBack b_Journal_stepBack 1 (some .boolean) { frames := 3, cells := 0, slots := 0, locals := 64 } D (tyL cI cL cQ) N0 N0 [.ref (G 0 1)] (wsC G cI cL cQ σ π rest) (some (.int (bi (m_Journal_stepBack σ).1))) (pwC G cI cL cQ (m_Journal_stepBack σ).2 rest) 0 0 := by
  generalize hR : m_Journal_stepBack σ = RES
  obtain ⟨RV, RS⟩ := RES
  dsimp only
  refine met_of (own := R_Journal) (by decide) rfl nwl_ok ?_
  intro p e s m below meth c hC hin hB
  have hx := hC.1
  have hb := hC.2.1
  have hl := lv_entry ([.ref (G 0 1)]) (n := 1) (Nat.le_of_ble_eq_true rfl)
  rw [lg_entry_eq]
  generalize (lg_sl ([.ref (G 0 1)]) ++ List.replicate (1 - (lg_sl ([.ref (G 0 1)])).length) Slot.unset).toArray = ls at hl ⊢
  have hl : lv_has ls 1 [(0, .ref (G 0 1))] := hl
  rw [m_Journal_stepBack] at hR
  refine lv_aload_n hx hb d_Journal_stepBack_0 rfl (lv_at hl 0 rfl) ?_
  refine gt hC hB _ lkC_Journal rfl i_Journal 1 (by decide) rfl kw_34 rfl d_Journal_stepBack_1 ?_
  refine lv_if_ne (tgt := 9) hx hb d_Journal_stepBack_4 (by decide) (fun c1 => ?_) (fun c1 => ?_)
  · rw [if_neg c1] at hR
    obtain ⟨rfl, rfl⟩ := Prod.mk.inj hR
    refine lv_aload_n hx hb d_Journal_stepBack_9 rfl (lv_at hl 0 rfl) ?_
    refine lv_dup hx hb d_Journal_stepBack_10 rfl ?_
    refine gt hC hB _ lkC_Journal rfl i_Journal 1 (by decide) rfl kw_34 rfl d_Journal_stepBack_11 ?_
    refine lv_iconst (v := 1) hx hb d_Journal_stepBack_14 (by decide) ?_
    refine lv_isub hx hb d_Journal_stepBack_15 ?_
    refine pt (ty := .int) rfl hC hB _ lkC_Journal rfl i_Journal t_Journal t_Journal_ok n_Journal 1 (by decide) rfl rfl kw_34 (by decide +kernel) rfl rfl (Nat.le_of_ble_eq_true rfl) d_Journal_stepBack_16 setC_n0 (fun H locs hB => ?_)
    refine lv_aload_n hx hb d_Journal_stepBack_19 rfl (lv_at hl 0 rfl) ?_
    refine lv_aload_n hx hb d_Journal_stepBack_20 rfl (lv_at hl 0 rfl) ?_
    refine gt (v := .int (xn σ 1)) hC hB _ lkC_Journal rfl i_Journal 2 (by decide) rfl kw_35 rfl d_Journal_stepBack_21 ?_
    refine lv_bipush (v := 50) hx hb d_Journal_stepBack_24 (by decide) ?_
    refine lv_iadd hx hb d_Journal_stepBack_26 ?_
    refine lv_iconst (v := 1) hx hb d_Journal_stepBack_27 (by decide) ?_
    refine lv_isub hx hb d_Journal_stepBack_28 ?_
    refine lv_bipush (v := 50) hx hb d_Journal_stepBack_29 (by decide) ?_
    refine lv_irem hx hb d_Journal_stepBack_31 (by decide) ?_
    refine pt (ty := .int) rfl hC hB _ lkC_Journal rfl i_Journal t_Journal t_Journal_ok n_Journal 2 (by decide) rfl rfl kw_35 (by decide +kernel) rfl rfl (Nat.le_of_ble_eq_true rfl) d_Journal_stepBack_32 (setC_n1 (v := jNx σ)) (fun H locs hB => ?_)
    refine lv_aload_n hx hb d_Journal_stepBack_35 rfl (lv_at hl 0 rfl) ?_
    refine lv_aload_n hx hb d_Journal_stepBack_36 rfl (lv_at hl 0 rfl) ?_
    refine lv_aload_n hx hb d_Journal_stepBack_37 rfl (lv_at hl 0 rfl) ?_
    refine gt (v := .int (jNx σ)) hC hB _ lkC_Journal rfl i_Journal 2 (by decide) rfl kw_35 rfl d_Journal_stepBack_38 ?_
    refine kV hC hB _ lkC_Journal rfl (c_Journal_getAct (zn (zn σ 0 (xn σ 0 - 1)) 1 (jNx σ)) π (jNx σ)) allw_ok mf_Journal_getAct kw_349 ks_3 kw_347 ⟨rfl, rfl, Nat.le_of_ble_eq_true rfl, Nat.le_of_ble_eq_true rfl⟩ rfl rfl hl.1 (Nat.le_of_ble_eq_true rfl) d_Journal_stepBack_41 ⟨Nat.le_of_ble_eq_true rfl, Nat.le_of_ble_eq_true rfl⟩ (roK fun H locs hB => ?_)
    refine pt (ty := .object "SheetTrees$Change") (v := va_rf (gA π (jNx σ))) rfl hC hB _ lkC_Journal rfl i_Journal t_Journal t_Journal_ok n_Journal 3 (by decide) rfl rfl kw_36 (by decide +kernel) (nar_rf _ _) (fit_rf _ _) (Nat.le_of_ble_eq_true rfl) d_Journal_stepBack_44 setC_open (fun H locs hB => ?_)
    refine lv_aload_n hx hb d_Journal_stepBack_47 rfl (lv_at hl 0 rfl) ?_
    refine lv_aload_n hx hb d_Journal_stepBack_48 rfl (lv_at hl 0 rfl) ?_
    refine gt (v := .int (jNx σ)) hC hB _ lkC_Journal rfl i_Journal 2 (by decide) rfl kw_35 rfl d_Journal_stepBack_49 ?_
    refine lv_null hx hb d_Journal_stepBack_52 ?_
    refine kV hC hB _ lkC_Journal rfl (c_Journal_putAct (zn (zn σ 0 (xn σ 0 - 1)) 1 (jNx σ)) (π.1, π.2.1, π.2.2.1, gA π (jNx σ)) (jNx σ) none (fun a h => by cases h)) allw_ok mf_Journal_putAct kw_327 ks_2 kw_325 ⟨rfl, rfl, Nat.le_of_ble_eq_true rfl, Nat.le_of_ble_eq_true rfl⟩ rfl rfl hl.1 (Nat.le_of_ble_eq_true rfl) d_Journal_stepBack_53 ⟨Nat.le_of_ble_eq_true rfl, Nat.le_of_ble_eq_true rfl⟩ (roK fun H locs hB => ?_)
    have hj := jP_fr (zo (zn (zn σ 0 (xn σ 0 - 1)) 1 (jNx σ)) (jA σ (jNx σ))) (jNx σ) []
    rw [wsC_c (σ := zn (zn σ 0 (xn σ 0 - 1)) 1 (jNx σ)) (σ' := jP (zo (zn (zn σ 0 (xn σ 0 - 1)) 1 (jNx σ)) (jA σ (jNx σ))) (jNx σ) []) hj.1.symm hj.2.1.symm hj.2.2.1.symm] at hB
    refine lv_aload_n hx hb d_Journal_stepBack_56 rfl (lv_at hl 0 rfl) ?_
    have hch : ch π.1 π.2.1 (gA π (jNx σ)) (xo (jP (zo (zn (zn σ 0 (xn σ 0 - 1)) 1 (jNx σ)) (jA σ (jNx σ))) (jNx σ) [])) := by
      rw [show xo (jP (zo (zn (zn σ 0 (xn σ 0 - 1)) 1 (jNx σ)) (jA σ (jNx σ))) (jNx σ) []) = jA σ (jNx σ) from hj.2.2.2]
      exact ch_get hπ.2
    refine kV hC hB _ lkC_Journal rfl (c_Journal_takeBack (jP (zo (zn (zn σ 0 (xn σ 0 - 1)) 1 (jNx σ)) (jA σ (jNx σ))) (jNx σ) []) (π.1, π.2.1, gP (π.1, π.2.1, π.2.2.1, gA π (jNx σ)) (jNx σ) none, gA π (jNx σ)) hch) allw_ok mf_Journal_takeBack kw_352 kw_353 kw_351 ⟨rfl, rfl, Nat.le_of_ble_eq_true rfl, Nat.le_of_ble_eq_true rfl⟩ rfl rfl hl.1 (Nat.le_of_ble_eq_true rfl) d_Journal_stepBack_57 ⟨Nat.le_of_ble_eq_true rfl, Nat.le_of_ble_eq_true rfl⟩ (roK fun H locs hB => ?_)
    refine lv_iconst (v := 1) hx hb d_Journal_stepBack_60 (by decide) ?_
    refine rz (b := true) hC hB ⟨(π.1, π.2.1, gP (π.1, π.2.1, π.2.2.1, gA π (jNx σ)) (jNx σ) none, none), ⟨xo_takeBack _, fun j => ?_⟩, rfl⟩ d_Journal_stepBack_61
    have h9 := ch_put (π := π) (σ := σ) (x := jNx σ) (t := []) (o := none) hπ.2 rfl j
    rw [xa_takeBack]
    rw [show xa (jP (zo (zn (zn σ 0 (xn σ 0 - 1)) 1 (jNx σ)) (jA σ (jNx σ))) (jNx σ) []) j = xa (jP σ (jNx σ) []) j from congrFun (xa_jP _ σ _ _) j]
    exact h9
  · rw [if_pos c1] at hR
    obtain ⟨rfl, rfl⟩ := Prod.mk.inj hR
    refine lv_iconst (v := 0) hx hb d_Journal_stepBack_7 (by decide) ?_
    exact rz (b := false) hC hB ⟨π, hπ, rfl⟩ d_Journal_stepBack_8

theorem met_pw {y : MethodName} {bytes : ByteArray} {maxL : Nat} {rt : Option FieldType} {rm : Room} {tys : List (ClassId × FieldType)} {av : List Value} {ws : va_W} {v : Option Value} {PW PW' : va_W → Prop} {mc ms : Nat} (h : CM l y bytes maxL rt rm D tys N0 N0 av ws v PW mc ms) (hp : ∀ w, PW w → PW' w) : CM l y bytes maxL rt rm D tys N0 N0 av ws v PW' mc ms :=
  MetFree.mono h (fun _ _ q => q) (fun _ _ _ _ _ q => q) (fun _ _ _ _ _ q => ⟨⟨q.1.1, ⟨q.1.2.1.choose, hp _ q.1.2.1.choose_spec.1, q.1.2.1.choose_spec.2⟩, q.1.2.2⟩, q.2⟩)
theorem cj_takeBack (σ : SC) (π : PJ) (hπ : RJ π σ) : CM l y_Journal_takeBack b_Journal_takeBack 2 none { frames := 2, cells := 0, slots := 0, locals := 43 } D (tyL cI cL cQ) N0 N0 [.ref (G 0 1)] (wsC G cI cL cQ σ π rest) none (pwC G cI cL cQ (m_Journal_takeBack σ) rest) 0 0 :=
  met_pw (c_Journal_takeBack σ π hπ.1) (fun w hw => ⟨(π.1, π.2.1, π.2.2.1, none), ⟨xo_takeBack _, fun j => by rw [xa_takeBack]; exact hπ.2 j⟩, hw⟩)

end JO
