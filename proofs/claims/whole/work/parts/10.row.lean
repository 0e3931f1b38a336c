/-! THE CLASS'S WORLD: its cells as a function of an abstract value -/
abbrev Chg : Type := Nat × Int32 × Int64
/-- rows of longs, rows of ints, numbers (0 journal.count, 1 journal.next, 2 book.count, 3 lostNames), the acts' changes, the open act's changes -/
abbrev SC : Type := (Nat → Nat → Int64) × (Nat → Nat → Int32) × (Nat → Int32) × (Nat → List Chg) × List Chg
def xL (σ : SC) : Nat → Nat → Int64 := σ.1
def xI (σ : SC) : Nat → Nat → Int32 := σ.2.1
def xn (σ : SC) : Nat → Int32 := σ.2.2.1
def xa (σ : SC) : Nat → List Chg := σ.2.2.2.1
def xo (σ : SC) : List Chg := σ.2.2.2.2
def zL (σ : SC) (k i : Nat) (v : Int64) : SC := (va_up σ.1 k (vp_updL (σ.1 k) i v), σ.2)
def zI (σ : SC) (k i : Nat) (v : Int32) : SC := (σ.1, va_up σ.2.1 k (upd (σ.2.1 k) i v), σ.2.2)
def zIf (σ : SC) (k : Nat) (f : Nat → Int32) : SC := (σ.1, va_up σ.2.1 k f, σ.2.2)
def zn (σ : SC) (k : Nat) (v : Int32) : SC := (σ.1, σ.2.1, va_up σ.2.2.1 k v, σ.2.2.2)
def za (σ : SC) (k : Nat) (v : List Chg) : SC := (σ.1, σ.2.1, σ.2.2.1, va_up σ.2.2.2.1 k v, σ.2.2.2.2)
def zo (σ : SC) (v : List Chg) : SC := (σ.1, σ.2.1, σ.2.2.1, σ.2.2.2.1, v)
/-- where the changes lie: their addresses, what they hold, the acts' first ones, the open act's first one, the first spare one -/
abbrev PJ : Type := List Nat × (Nat → Nat × Int32 × Int64 × Option Nat) × (Nat → Option Nat) × Option Nat × Option Nat
/-- a chain of changes: its addresses, its first one, what it holds -/
def ch (cg : Nat → Nat × Int32 × Int64 × Option Nat) : List Nat → Option Nat → List Chg → Prop
  | [], o, t => o = none ∧ t = []
  | a :: A, o, t => o = some a ∧ (cg a).1 < 19 ∧ ∃ t', t = ((cg a).1, (cg a).2.1, (cg a).2.2.1) :: t' ∧ ch cg A (cg a).2.2.2 t'
/-- the chains lie apart (0 the spare ones, 1 the open act, j + 2 the act j): each address has one owner -/
def ap (LP : List Nat) (LA : Nat → List Nat) : Prop := ∃ ow : Nat → Nat, ∀ i, (LA i).Nodup ∧ ∀ a ∈ LA i, a ∈ LP ∧ ow a = i
def RK (π : PJ) (LA : Nat → List Nat) (o : List Chg) (ac : Nat → List Chg) : Prop := ap π.1 LA ∧ ch π.2.1 (LA 1) π.2.2.2.1 o ∧ (∀ j, ch π.2.1 (LA (j + 2)) (π.2.2.1 j) (ac j)) ∧ ∃ ts, ch π.2.1 (LA 0) π.2.2.2.2 ts
def RJ (π : PJ) (σ : SC) : Prop := ∃ LA, RK π LA (xo σ) (xa σ)
theorem ch_up {cg : Nat → Nat × Int32 × Int64 × Option Nat} {q : Nat} {c : Nat × Int32 × Int64 × Option Nat} : ∀ {A : List Nat} {o : Option Nat} {t : List Chg}, q ∉ A → ch cg A o t → ch (va_up cg q c) A o t
  | [], _, _, _, h => h
  | a :: A, o, t, hq, h => by
    obtain ⟨h1, h2, t', h3, h4⟩ := h
    have hne : a ≠ q := fun e => hq (by rw [← e]; exact List.mem_cons_self)
    refine ⟨h1, ?_, t', ?_, ?_⟩
    · rw [va_up_ne cg c hne]; exact h2
    · rw [va_up_ne cg c hne]; exact h3
    · rw [va_up_ne cg c hne]; exact ch_up (fun h => hq (List.mem_cons_of_mem _ h)) h4
theorem ch_cons {cg : Nat → Nat × Int32 × Int64 × Option Nat} {A : List Nat} {o : Option Nat} {t : List Chg} {a : Nat} {c : Nat × Int32 × Int64 × Option Nat} {x : Chg} (h : cg a = c) (hk : c.1 < 19) (hx : x = (c.1, c.2.1, c.2.2.1)) (ho : o = some a) (hr : ch cg A c.2.2.2 t) : ch cg (a :: A) o (x :: t) := by
  subst h
  subst hx
  exact ⟨ho, hk, t, rfl, hr⟩
theorem ap_mem {LP : List Nat} {LA : Nat → List Nat} (h : ap LP LA) {i a : Nat} (ha : a ∈ LA i) : a ∈ LP := by
  obtain ⟨ow, h⟩ := h
  exact ((h i).2 a ha).1
theorem ap_eq {LP : List Nat} {LA : Nat → List Nat} (h : ap LP LA) {i j a : Nat} (ha : a ∈ LA i) (hb : a ∈ LA j) : i = j := by
  obtain ⟨ow, h⟩ := h
  exact ((h i).2 a ha).2.symm.trans ((h j).2 a hb).2
theorem ap_nd {LP : List Nat} {LA : Nat → List Nat} (h : ap LP LA) (i : Nat) : (LA i).Nodup := by
  obtain ⟨ow, h⟩ := h
  exact (h i).1
theorem ap_new {LP : List Nat} {LA : Nat → List Nat} {q : Nat} (h : ap LP LA) (hq : q ∉ LP) : ap (LP ++ [q]) (va_up LA 1 (q :: LA 1)) := by
  obtain ⟨ow, h⟩ := h
  have hn : ∀ i, q ∉ LA i := fun i hi => hq ((h i).2 q hi).1
  have hm : ∀ i, ∀ a ∈ LA i, a ∈ LP ++ [q] ∧ va_up ow q 1 a = i := fun i a ha =>
    ⟨List.mem_append_left _ ((h i).2 a ha).1, by rw [va_up_ne ow 1 (fun e : a = q => hn i (by rw [← e]; exact ha))]; exact ((h i).2 a ha).2⟩
  refine ⟨va_up ow q 1, fun i => ?_⟩
  by_cases hi : i = 1
  · subst hi
    rw [va_up_self]
    refine ⟨List.nodup_cons.mpr ⟨hn 1, (h 1).1⟩, fun a ha => ?_⟩
    rcases List.mem_cons.mp ha with e | ha
    · subst e
      exact ⟨List.mem_append_right _ List.mem_cons_self, va_up_self _ _ _⟩
    · exact hm 1 a ha
  · rw [va_up_ne _ _ hi]
    exact ⟨(h i).1, hm i⟩
theorem ap_pop {LP : List Nat} {LA : Nat → List Nat} {a : Nat} {S : List Nat} (h : ap LP LA) (h0 : LA 0 = a :: S) : ap LP (va_up (va_up LA 0 S) 1 (a :: LA 1)) := by
  obtain ⟨ow, h⟩ := h
  have h00 := h 0
  rw [h0] at h00
  have hS : a ∉ S := (List.nodup_cons.mp h00.1).1
  have hn : ∀ i, i ≠ 0 → a ∉ LA i := fun i hi ha => hi (((h i).2 a ha).2.symm.trans (h00.2 a List.mem_cons_self).2)
  have hm : ∀ i, i ≠ 0 → ∀ b ∈ LA i, b ∈ LP ∧ va_up ow a 1 b = i := fun i hi b hb =>
    ⟨((h i).2 b hb).1, by rw [va_up_ne ow 1 (fun e : b = a => hn i hi (by rw [← e]; exact hb))]; exact ((h i).2 b hb).2⟩
  refine ⟨va_up ow a 1, fun i => ?_⟩
  by_cases hi : i = 1
  · subst hi
    rw [va_up_self]
    refine ⟨List.nodup_cons.mpr ⟨hn 1 (by decide), (h 1).1⟩, fun b hb => ?_⟩
    rcases List.mem_cons.mp hb with e | hb
    · subst e
      exact ⟨(h00.2 _ List.mem_cons_self).1, va_up_self _ _ _⟩
    · exact hm 1 (by decide) b hb
  · rw [va_up_ne _ _ hi]
    by_cases hi0 : i = 0
    · subst hi0
      rw [va_up_self]
      exact ⟨(List.nodup_cons.mp h00.1).2, fun b hb => ⟨(h00.2 b (List.mem_cons_of_mem _ hb)).1, by rw [va_up_ne ow 1 (fun e : b = a => hS (by rw [← e]; exact hb))]; exact (h00.2 b (List.mem_cons_of_mem _ hb)).2⟩⟩
    · rw [va_up_ne _ _ hi0]
      exact ⟨(h i).1, hm i hi0⟩
theorem ap_drop {LP : List Nat} {LA : Nat → List Nat} (h : ap LP LA) (j : Nat) : ap LP (va_up LA j []) := by
  obtain ⟨ow, h⟩ := h
  refine ⟨ow, fun i => ?_⟩
  by_cases hi : i = j
  · subst hi
    rw [va_up_self]
    exact ⟨List.nodup_nil, fun a ha => by cases ha⟩
  · rw [va_up_ne _ _ hi]
    exact h i
/-- all of i1 goes to i2, what was there is lost -/
theorem ap_move {LP : List Nat} {LA : Nat → List Nat} (h : ap LP LA) {i1 i2 : Nat} : ap LP (va_up (va_up LA i2 (LA i1)) i1 []) := by
  obtain ⟨ow, h⟩ := h
  refine ⟨fun a => if ow a = i1 then i2 else ow a, fun i => ?_⟩
  by_cases c1 : i = i1
  · rw [c1, va_up_self]
    exact ⟨List.nodup_nil, fun a ha => by cases ha⟩
  · rw [va_up_ne _ _ c1]
    by_cases c2 : i = i2
    · rw [c2, va_up_self]
      exact ⟨(h i1).1, fun a ha => ⟨((h i1).2 a ha).1, if_pos ((h i1).2 a ha).2⟩⟩
    · rw [va_up_ne _ _ c2]
      exact ⟨(h i).1, fun a ha => ⟨((h i).2 a ha).1, (if_neg (fun e => c1 (((h i).2 a ha).2.symm.trans e))).trans ((h i).2 a ha).2⟩⟩
/-- all of j goes to the spare ones -/
theorem ap_free {LP : List Nat} {LA : Nat → List Nat} (h : ap LP LA) {j : Nat} (hj : j ≠ 0) : ap LP (va_up (va_up LA 0 (LA j ++ LA 0)) j []) := by
  obtain ⟨ow, h⟩ := h
  refine ⟨fun a => if ow a = j then 0 else ow a, fun i => ?_⟩
  by_cases c1 : i = j
  · rw [c1, va_up_self]
    exact ⟨List.nodup_nil, fun a ha => by cases ha⟩
  · rw [va_up_ne _ _ c1]
    by_cases c2 : i = 0
    · rw [c2, va_up_self]
      refine ⟨List.pairwise_append.mpr ⟨(h j).1, (h 0).1, fun a ha b hb e => hj ?_⟩, fun a ha => ?_⟩
      · rw [← e] at hb
        exact ((h j).2 a ha).2.symm.trans ((h 0).2 a hb).2
      · rcases List.mem_append.mp ha with ha | ha
        · exact ⟨((h j).2 a ha).1, if_pos ((h j).2 a ha).2⟩
        · exact ⟨((h 0).2 a ha).1, (if_neg (fun e => hj (e.symm.trans ((h 0).2 a ha).2))).trans ((h 0).2 a ha).2⟩
    · rw [va_up_ne _ _ c2]
      exact ⟨(h i).1, fun a ha => ⟨((h i).2 a ha).1, (if_neg (fun e => c1 (((h i).2 a ha).2.symm.trans e))).trans ((h i).2 a ha).2⟩⟩
def lnR : Nat → Nat
  | 0 => 2
  | 1 => 24
  | 2 => 60
  | 3 => 60
  | 4 => 84
  | 5 => 1920
  | 6 => 1
  | 7 => 30
  | 8 => 30
  | 9 => 240
  | 10 => 480
  | 11 => 24
  | 12 => 2
  | 13 => 10
  | 14 => 40
  | 15 => 40
  | 16 => 40
  | 17 => 920
  | 18 => 1
  | _ => 0
def lnI : Nat → Nat
  | 0 => 301
  | 1 => 301
  | 2 => 301
  | 3 => 301
  | 4 => 301
  | 5 => 24
  | 6 => 30
  | _ => 0
theorem lnR_lt (k : Nat) : lnR k < 2 ^ 31 := by unfold lnR; split <;> decide
theorem lnI_lt (k : Nat) : lnI k < 2 ^ 31 := by unfold lnI; split <;> decide
theorem vin {i : Int32} {n : Nat} (h0 : ¬ i < 0) (h1 : ¬ nI n ≤ i) (hn : n < 2 ^ 31) : vp_in i n := by
  obtain ⟨j, hj, rfl, -⟩ := pk_mu h0 h1 hn
  exact vp_in_nI hj hn
theorem sg_get {α : Type} {A B : List α} {f : Nat → α} {n k : Nat} (hk : k < n) : (A ++ ((List.range n).map f ++ B))[A.length + k]? = some (f k) := by
  rw [List.getElem?_append_right (by omega), Nat.add_sub_cancel_left, List.getElem?_append_left (by simp; omega)]
  simp [hk]
theorem sg_set {α : Type} {A B : List α} {f : Nat → α} {n k : Nat} {x : α} (hk : k < n) : (A ++ ((List.range n).map f ++ B)).set (A.length + k) x = A ++ ((List.range n).map (va_up f k x) ++ B) := by
  rw [List.set_append_right _ _ (by omega), Nat.add_sub_cancel_left, List.set_append_left _ _ (by simp; omega)]
  congr 2
  apply List.ext_getElem?
  intro j
  by_cases hj : j < n
  · by_cases h : j = k
    · subst h
      rw [List.getElem?_set_self (by simp; omega)]
      simp [hj, va_up]
    · rw [List.getElem?_set_ne (Ne.symm h)]
      simp [hj, va_up, h]
  · rw [List.getElem?_eq_none (by simp; omega), List.getElem?_eq_none (by simp; omega)]

/-- the cells -/
def obC (G : Nat → Nat → Nat) (cQ : ClassId) (σ : SC) (π : PJ) : va_W := [
  (G 0 0, .inr (CI_ST, [.ref (G 0 1), .ref (G 0 3), .ref (G 0 4), .ref (G 0 5), .ref (G 0 6), .ref (G 1 18), .int (xn σ 3)])),
  (G 0 1, .inr (CI_Journal, [.ref (G 0 2), .int (xn σ 0), .int (xn σ 1), va_rf π.2.2.2.1, va_rf π.2.2.2.2])),
  (G 0 2, .inl (cQ, 50, .inr (.inr (.inr (.inr π.2.2.1))))),
  (G 0 3, .inr (CI_Sheets, [.ref (G 1 0), .ref (G 1 1), .ref (G 1 2), .ref (G 1 3), .ref (G 1 4), .ref (G 1 5)])),
  (G 0 4, .inr (CI_Book, [.ref (G 0 3), .ref (G 3 0), .ref (G 3 1), .ref (G 3 2), .ref (G 3 3), .ref (G 3 4), .ref (G 3 5), .int (xn σ 2)])),
  (G 0 5, .inr (CI_Parts, [.ref (G 0 4), .ref (G 1 6), .ref (G 1 7), .ref (G 1 8), .ref (G 1 9), .ref (G 1 10), .ref (G 1 11), .ref (G 3 6)])),
  (G 0 6, .inr (CI_Variants, [.ref (G 0 4), .ref (G 1 12), .ref (G 1 13), .ref (G 1 14), .ref (G 1 15), .ref (G 1 16), .ref (G 1 17)]))]
def iaC (G : Nat → Nat → Nat) (cI : ClassId) (σ : SC) (j : Nat) : Nat × va_E := (G 3 j, .inl (cI, lnI j, .inl (xI σ j)))
def rwC (G : Nat → Nat → Nat) (k : Nat) : Nat × va_E := (G 1 k, .inr (CI_Row, [.ref (G 0 1), .ref (G 2 k)]))
def laC (G : Nat → Nat → Nat) (cL : ClassId) (σ : SC) (k : Nat) : Nat × va_E := (G 2 k, .inl (cL, lnR k, .inr (.inl (xL σ k))))
def cgC (G : Nat → Nat → Nat) (π : PJ) (a : Nat) : va_E := .inr (CI_Change, [.ref (G 1 (π.2.1 a).1), .int (π.2.1 a).2.1, .long (π.2.1 a).2.2.1, va_rf (π.2.1 a).2.2.2])
def wsC (G : Nat → Nat → Nat) (cI cL cQ : ClassId) (σ : SC) (π : PJ) (rest : va_W) : va_W :=
  obC G cQ σ π ++ ((List.range 7).map (iaC G cI σ) ++ ((List.range 19).map (rwC G) ++ ((List.range 19).map (laC G cL σ) ++ (rest ++ va_pl π.1 (cgC G π)))))
def pwC (G : Nat → Nat → Nat) (cI cL cQ : ClassId) (σ : SC) (rest : va_W) : va_W → Prop := fun w => ∃ π, RJ π σ ∧ w = wsC G cI cL cQ σ π rest
section LKC
variable {G : Nat → Nat → Nat} {cI cL cQ : ClassId} {σ : SC} {π : PJ} {rest : va_W}
theorem lkC_ST : (wsC G cI cL cQ σ π rest)[0]? = some (G 0 0, .inr (CI_ST, [.ref (G 0 1), .ref (G 0 3), .ref (G 0 4), .ref (G 0 5), .ref (G 0 6), .ref (G 1 18), .int (xn σ 3)])) := rfl
theorem lkC_Journal : (wsC G cI cL cQ σ π rest)[1]? = some (G 0 1, .inr (CI_Journal, [.ref (G 0 2), .int (xn σ 0), .int (xn σ 1), va_rf π.2.2.2.1, va_rf π.2.2.2.2])) := rfl
theorem lkC_acts : (wsC G cI cL cQ σ π rest)[2]? = some (G 0 2, .inl (cQ, 50, .inr (.inr (.inr (.inr π.2.2.1))))) := rfl
theorem lkC_Sheets : (wsC G cI cL cQ σ π rest)[3]? = some (G 0 3, .inr (CI_Sheets, [.ref (G 1 0), .ref (G 1 1), .ref (G 1 2), .ref (G 1 3), .ref (G 1 4), .ref (G 1 5)])) := rfl
theorem lkC_Book : (wsC G cI cL cQ σ π rest)[4]? = some (G 0 4, .inr (CI_Book, [.ref (G 0 3), .ref (G 3 0), .ref (G 3 1), .ref (G 3 2), .ref (G 3 3), .ref (G 3 4), .ref (G 3 5), .int (xn σ 2)])) := rfl
theorem lkC_Parts : (wsC G cI cL cQ σ π rest)[5]? = some (G 0 5, .inr (CI_Parts, [.ref (G 0 4), .ref (G 1 6), .ref (G 1 7), .ref (G 1 8), .ref (G 1 9), .ref (G 1 10), .ref (G 1 11), .ref (G 3 6)])) := rfl
theorem lkC_Variants : (wsC G cI cL cQ σ π rest)[6]? = some (G 0 6, .inr (CI_Variants, [.ref (G 0 4), .ref (G 1 12), .ref (G 1 13), .ref (G 1 14), .ref (G 1 15), .ref (G 1 16), .ref (G 1 17)])) := rfl
theorem lkC_iarr {j : Nat} (hj : j < 7) : (wsC G cI cL cQ σ π rest)[7 + j]? = some (G 3 j, .inl (cI, lnI j, .inl (xI σ j))) := sg_get (A := obC G cQ σ π) hj
theorem lkC_row {k : Nat} (hk : k < 19) : (wsC G cI cL cQ σ π rest)[14 + k]? = some (G 1 k, .inr (CI_Row, [.ref (G 0 1), .ref (G 2 k)])) := by
  have h := sg_get (A := obC G cQ σ π ++ (List.range 7).map (iaC G cI σ)) (f := rwC G) (B := (List.range 19).map (laC G cL σ) ++ (rest ++ va_pl π.1 (cgC G π))) hk
  rw [List.append_assoc] at h
  exact h
theorem lkC_larr {k : Nat} (hk : k < 19) : (wsC G cI cL cQ σ π rest)[33 + k]? = some (G 2 k, .inl (cL, lnR k, .inr (.inl (xL σ k)))) := by
  have h := sg_get (A := obC G cQ σ π ++ ((List.range 7).map (iaC G cI σ) ++ (List.range 19).map (rwC G))) (f := laC G cL σ) (B := rest ++ va_pl π.1 (cgC G π)) hk
  rw [List.append_assoc, List.append_assoc] at h
  exact h
theorem setC_n3 {v : Int32} : (wsC G cI cL cQ σ π rest).set 0 (G 0 0, .inr (CI_ST, ([.ref (G 0 1), .ref (G 0 3), .ref (G 0 4), .ref (G 0 5), .ref (G 0 6), .ref (G 1 18), .int (xn σ 3)] : List Value).set 6 (.int v))) = wsC G cI cL cQ (zn σ 3 v) π rest := rfl
theorem setC_n0 {v : Int32} : (wsC G cI cL cQ σ π rest).set 1 (G 0 1, .inr (CI_Journal, ([.ref (G 0 2), .int (xn σ 0), .int (xn σ 1), va_rf π.2.2.2.1, va_rf π.2.2.2.2] : List Value).set 1 (.int v))) = wsC G cI cL cQ (zn σ 0 v) π rest := rfl
theorem setC_n1 {v : Int32} : (wsC G cI cL cQ σ π rest).set 1 (G 0 1, .inr (CI_Journal, ([.ref (G 0 2), .int (xn σ 0), .int (xn σ 1), va_rf π.2.2.2.1, va_rf π.2.2.2.2] : List Value).set 2 (.int v))) = wsC G cI cL cQ (zn σ 1 v) π rest := rfl
theorem setC_n2 {v : Int32} : (wsC G cI cL cQ σ π rest).set 4 (G 0 4, .inr (CI_Book, ([.ref (G 0 3), .ref (G 3 0), .ref (G 3 1), .ref (G 3 2), .ref (G 3 3), .ref (G 3 4), .ref (G 3 5), .int (xn σ 2)] : List Value).set 7 (.int v))) = wsC G cI cL cQ (zn σ 2 v) π rest := rfl
theorem setC_iarr {j : Nat} (hj : j < 7) (i : Nat) (v : Int32) : (wsC G cI cL cQ σ π rest).set (7 + j) (G 3 j, .inl (cI, lnI j, .inl (upd (xI σ j) i v))) = wsC G cI cL cQ (zI σ j i v) π rest := by
  have h := sg_set (A := obC G cQ σ π) (f := iaC G cI σ) (B := (List.range 19).map (rwC G) ++ ((List.range 19).map (laC G cL σ) ++ (rest ++ va_pl π.1 (cgC G π)))) (x := (G 3 j, .inl (cI, lnI j, .inl (upd (xI σ j) i v)))) hj
  refine h.trans ?_
  have hf : va_up (iaC G cI σ) j (G 3 j, .inl (cI, lnI j, .inl (upd (xI σ j) i v))) = iaC G cI (zI σ j i v) := by
    funext q
    by_cases hq : q = j
    · subst hq; simp [va_up, iaC, xI, zI]
    · simp [va_up, iaC, xI, zI, hq]
  rw [hf]
  rfl
theorem setC_larr {k : Nat} (hk : k < 19) (i : Nat) (v : Int64) : (wsC G cI cL cQ σ π rest).set (33 + k) (G 2 k, .inl (cL, lnR k, .inr (.inl (vp_updL (xL σ k) i v)))) = wsC G cI cL cQ (zL σ k i v) π rest := by
  have h := sg_set (A := obC G cQ σ π ++ ((List.range 7).map (iaC G cI σ) ++ (List.range 19).map (rwC G))) (f := laC G cL σ) (B := rest ++ va_pl π.1 (cgC G π)) (x := (G 2 k, .inl (cL, lnR k, .inr (.inl (vp_updL (xL σ k) i v))))) hk
  rw [List.append_assoc, List.append_assoc] at h
  refine h.trans ?_
  have hf : va_up (laC G cL σ) k (G 2 k, .inl (cL, lnR k, .inr (.inl (vp_updL (xL σ k) i v)))) = laC G cL (zL σ k i v) := by
    funext q
    by_cases hq : q = k
    · subst hq; simp [va_up, laC, xL, zL]
    · simp [va_up, laC, xL, zL, hq]
  rw [hf, List.append_assoc, List.append_assoc]
  rfl
end LKC

theorem nwl_ok : ∀ w ∈ NWL, nwOk w = true := by decide
def tyL (cI cL cQ : ClassId) : List (ClassId × FieldType) := [(cI, .int), (cL, .long), (cQ, .object "SheetTrees$Change")]
abbrev CM (l : Launch) (y : MethodName) (bytes : ByteArray) (maxL : Nat) (rt : Option FieldType) (rm : Room) (D : va_G) (tys : List (ClassId × FieldType)) (N0 N1 : Nat) (av : List Value) (ws : va_W) (v : Option Value) (PW : va_W → Prop) (mc ms : Nat) : Prop :=
  Met l y (Cond.code y bytes maxL rt :: ALLW) rm (pcx D classes tys NWL N0 N1 av ws) (qx D classes N0 N1 v PW) mc ms (ga N1)
section RO
variable {D : va_G} {cl : List vw_C} {N0 N1 : Nat} {ws : va_W} {s : State}
theorem roK {X : Heap → List Loc → Prop} (h : ∀ (H : Heap) (locs : List Loc), bd D cl N0 N1 ws s H locs → X H locs) : ∀ (H : Heap) (locs : List Loc) (w : va_W), w = ws → bd D cl N0 N1 w s H locs → X H locs := fun H locs _ e hB => h H locs (e ▸ hB)
end RO
def m_Row_longAt (σ : SC) (k : Nat) (x0 : Int32) : Int64 :=
  if x0 < 0 then
    (-1)
  else
    if (nI (lnR k)) ≤ x0 then
      (-1)
    else
      (xL σ k x0.toNatClampNeg)

def m_Row_at (σ : SC) (k : Nat) (x0 : Int32) : Int32 :=
  if x0 < 0 then
    (-1)
  else
    if (nI (lnR k)) ≤ x0 then
      (-1)
    else
      (xL σ k x0.toNatClampNeg).toInt32

def m_Row_restore (σ : SC) (k : Nat) (x0 : Int32) (x1 : Int64) : SC :=
  if x0 < 0 then
    σ
  else
    if (nI (lnR k)) ≤ x0 then
      σ
    else
      (zL σ k x0.toNatClampNeg x1)

def m_ST_holdsName (x0 : Int32) (x1 : Int32) : Bool :=
  if (x0 &&& (1 <<< (x1 &&& 31))) = 0 then
    false
  else
    true

def m_ST_read (σ : SC) (j : Nat) (x1 : Int32) : Int32 :=
  if x1 < 0 then
    (-1)
  else
    if (nI (lnI j)) ≤ x1 then
      (-1)
    else
      (xI σ j x1.toNatClampNeg)

def m_ST_write (σ : SC) (j : Nat) (x1 : Int32) (x2 : Int32) : SC :=
  if x1 < 0 then
    σ
  else
    if (nI (lnI j)) ≤ x1 then
      σ
    else
      (zI σ j x1.toNatClampNeg x2)

def lp_Arrays_fillI_5 : Nat → SC → Nat → Int32 → Int32 → Int32 → SC
  | 0, σ, _, _, _, _ => σ
  | n + 1, σ, j, v1, v2, v3 =>
    if v3 ≤ v2 then
      σ
    else
      lp_Arrays_fillI_5 n (zI σ j v2.toNatClampNeg v1) j v1 (v2 + 1) v3

def m_Arrays_fillI (σ : SC) (j : Nat) (x1 : Int32) : SC :=
  lp_Arrays_fillI_5 ((nI (lnI j)).toNatClampNeg + 1) σ j x1 0 (nI (lnI j))

section SC
variable {l : Launch} {D : va_G} {N0 N1 : Nat} {G : Nat → Nat → Nat} {cI cL cQ : ClassId} {rest : va_W}
set_option maxHeartbeats 400000 in
set_option maxRecDepth 100000 in
theorem c_Row_longAt (k : Nat) (hk : k < 19) (σ : SC) (π : PJ) (x0 : Int32) : CM l y_Row_longAt b_Row_longAt 2 (some .long) { frames := 0, cells := 0, slots := 0, locals := 0 } D (tyL cI cL cQ) N0 N1 [.ref (G 1 k), .int x0] (wsC G cI cL cQ σ π rest) (some (.long (m_Row_longAt σ k x0))) (fun w => w = wsC G cI cL cQ σ π rest) 0 0 := by
  generalize hR : m_Row_longAt σ k x0 = RES
  refine met_of (own := R_Row) (by decide) rfl nwl_ok ?_
  intro p e s m below meth c hC hin hB
  have hx := hC.1
  have hb := hC.2.1
  have hl := lv_entry ([.ref (G 1 k), .int x0]) (n := 2) (Nat.le_of_ble_eq_true rfl)
  rw [lg_entry_eq]
  generalize (lg_sl ([.ref (G 1 k), .int x0]) ++ List.replicate (2 - (lg_sl ([.ref (G 1 k), .int x0])).length) Slot.unset).toArray = ls at hl ⊢
  have hl : lv_has ls 2 [(0, .ref (G 1 k)), (1, .int x0)] := hl
  rw [m_Row_longAt] at hR
  refine lv_iload_n hx hb d_Row_longAt_0 rfl (lv_at hl 1 rfl) ?_
  refine lv_if_lt (tgt := 22) hx hb d_Row_longAt_1 (by decide) (fun c_1 => ?_) (fun c_1 => ?_)
  · rw [if_pos c_1] at hR
    refine lv_ldc2 (v := (-1)) hx hb hC.2.2.2.2.1 (hC.2.2.2.2.2.1 _ kw_299) d_Row_longAt_22 ?_
    subst hR
    exact rl hC hB rfl d_Row_longAt_25
  · rw [if_neg c_1] at hR
    refine lv_iload_n hx hb d_Row_longAt_4 rfl (lv_at hl 1 rfl) ?_
    refine lv_aload_n hx hb d_Row_longAt_5 rfl (lv_at hl 0 rfl) ?_
    refine gt hC hB _ (lkC_row hk) rfl i_Row 1 (by decide) rfl kw_68 rfl d_Row_longAt_6 ?_
    refine va_alen hx hb hC.2.2.2.2.2.2.2.1.1 hB.1 _ 1 (lkC_larr hk) rfl (v := (nI (lnR k))) rfl d_Row_longAt_9 ?_
    refine lv_icmp_ge (tgt := 22) hx hb d_Row_longAt_10 (by decide) (fun c_2 => ?_) (fun c_2 => ?_)
    · rw [if_pos c_2] at hR
      refine lv_ldc2 (v := (-1)) hx hb hC.2.2.2.2.1 (hC.2.2.2.2.2.1 _ kw_299) d_Row_longAt_22 ?_
      subst hR
      exact rl hC hB rfl d_Row_longAt_25
    · rw [if_neg c_2] at hR
      refine lv_aload_n hx hb d_Row_longAt_13 rfl (lv_at hl 0 rfl) ?_
      refine gt hC hB _ (lkC_row hk) rfl i_Row 1 (by decide) rfl kw_68 rfl d_Row_longAt_14 ?_
      refine lv_iload_n hx hb d_Row_longAt_17 rfl (lv_at hl 1 rfl) ?_
      refine va_lald hx hb hC.2.2.2.2.2.2.2.1.1 hB.1 _ 1 (lkC_larr hk) rfl (vin (by assumption) (by assumption) (lnR_lt k)) d_Row_longAt_18 ?_
      refine lv_goto (tgt := 25) hx hb d_Row_longAt_19 (by decide) ?_
      subst hR
      exact rl hC hB rfl d_Row_longAt_25

set_option maxHeartbeats 400000 in
set_option maxRecDepth 100000 in
theorem c_Row_at (k : Nat) (hk : k < 19) (σ : SC) (π : PJ) (x0 : Int32) : CM l y_Row_at b_Row_at 2 (some .int) { frames := 0, cells := 0, slots := 0, locals := 0 } D (tyL cI cL cQ) N0 N1 [.ref (G 1 k), .int x0] (wsC G cI cL cQ σ π rest) (some (.int (m_Row_at σ k x0))) (fun w => w = wsC G cI cL cQ σ π rest) 0 0 := by
  generalize hR : m_Row_at σ k x0 = RES
  refine met_of (own := R_Row) (by decide) rfl nwl_ok ?_
  intro p e s m below meth c hC hin hB
  have hx := hC.1
  have hb := hC.2.1
  have hl := lv_entry ([.ref (G 1 k), .int x0]) (n := 2) (Nat.le_of_ble_eq_true rfl)
  rw [lg_entry_eq]
  generalize (lg_sl ([.ref (G 1 k), .int x0]) ++ List.replicate (2 - (lg_sl ([.ref (G 1 k), .int x0])).length) Slot.unset).toArray = ls at hl ⊢
  have hl : lv_has ls 2 [(0, .ref (G 1 k)), (1, .int x0)] := hl
  rw [m_Row_at] at hR
  refine lv_iload_n hx hb d_Row_at_0 rfl (lv_at hl 1 rfl) ?_
  refine lv_if_lt (tgt := 23) hx hb d_Row_at_1 (by decide) (fun c_1 => ?_) (fun c_1 => ?_)
  · rw [if_pos c_1] at hR
    refine lv_iconst (v := (-1)) hx hb d_Row_at_23 (by decide) ?_
    subst hR
    exact ri hC hB rfl d_Row_at_24
  · rw [if_neg c_1] at hR
    refine lv_iload_n hx hb d_Row_at_4 rfl (lv_at hl 1 rfl) ?_
    refine lv_aload_n hx hb d_Row_at_5 rfl (lv_at hl 0 rfl) ?_
    refine gt hC hB _ (lkC_row hk) rfl i_Row 1 (by decide) rfl kw_68 rfl d_Row_at_6 ?_
    refine va_alen hx hb hC.2.2.2.2.2.2.2.1.1 hB.1 _ 1 (lkC_larr hk) rfl (v := (nI (lnR k))) rfl d_Row_at_9 ?_
    refine lv_icmp_ge (tgt := 23) hx hb d_Row_at_10 (by decide) (fun c_2 => ?_) (fun c_2 => ?_)
    · rw [if_pos c_2] at hR
      refine lv_iconst (v := (-1)) hx hb d_Row_at_23 (by decide) ?_
      subst hR
      exact ri hC hB rfl d_Row_at_24
    · rw [if_neg c_2] at hR
      refine lv_aload_n hx hb d_Row_at_13 rfl (lv_at hl 0 rfl) ?_
      refine gt hC hB _ (lkC_row hk) rfl i_Row 1 (by decide) rfl kw_68 rfl d_Row_at_14 ?_
      refine lv_iload_n hx hb d_Row_at_17 rfl (lv_at hl 1 rfl) ?_
      refine va_lald hx hb hC.2.2.2.2.2.2.2.1.1 hB.1 _ 1 (lkC_larr hk) rfl (vin (by assumption) (by assumption) (lnR_lt k)) d_Row_at_18 ?_
      refine lv_l2i hx hb d_Row_at_19 rfl ?_
      refine lv_goto (tgt := 24) hx hb d_Row_at_20 (by decide) ?_
      subst hR
      exact ri hC hB rfl d_Row_at_24

set_option maxHeartbeats 400000 in
set_option maxRecDepth 100000 in
theorem c_Row_restore (k : Nat) (hk : k < 19) (σ : SC) (π : PJ) (x0 : Int32) (x1 : Int64) : CM l y_Row_restore b_Row_restore 4 (none) { frames := 0, cells := 0, slots := 0, locals := 0 } D (tyL cI cL cQ) N0 N0 [.ref (G 1 k), .int x0, .long x1] (wsC G cI cL cQ σ π rest) (none) (fun w => w = wsC G cI cL cQ (m_Row_restore σ k x0 x1) π rest) 0 0 := by
  generalize hR : m_Row_restore σ k x0 x1 = RES
  refine met_of (own := R_Row) (by decide) rfl nwl_ok ?_
  intro p e s m below meth c hC hin hB
  have hx := hC.1
  have hb := hC.2.1
  have hl := lv_entry ([.ref (G 1 k), .int x0, .long x1]) (n := 4) (Nat.le_of_ble_eq_true rfl)
  rw [lg_entry_eq]
  generalize (lg_sl ([.ref (G 1 k), .int x0, .long x1]) ++ List.replicate (4 - (lg_sl ([.ref (G 1 k), .int x0, .long x1])).length) Slot.unset).toArray = ls at hl ⊢
  have hl : lv_has ls 4 [(0, .ref (G 1 k)), (1, .int x0), (2, .long x1)] := hl
  rw [m_Row_restore] at hR
  refine lv_iload_n hx hb d_Row_restore_0 rfl (lv_at hl 1 rfl) ?_
  refine lv_if_lt (tgt := 20) hx hb d_Row_restore_1 (by decide) (fun c_1 => ?_) (fun c_1 => ?_)
  · rw [if_pos c_1] at hR
    subst hR
    exact rv hC hB rfl d_Row_restore_20
  · rw [if_neg c_1] at hR
    refine lv_iload_n hx hb d_Row_restore_4 rfl (lv_at hl 1 rfl) ?_
    refine lv_aload_n hx hb d_Row_restore_5 rfl (lv_at hl 0 rfl) ?_
    refine gt hC hB _ (lkC_row hk) rfl i_Row 1 (by decide) rfl kw_68 rfl d_Row_restore_6 ?_
    refine va_alen hx hb hC.2.2.2.2.2.2.2.1.1 hB.1 _ 1 (lkC_larr hk) rfl (v := (nI (lnR k))) rfl d_Row_restore_9 ?_
    refine lv_icmp_ge (tgt := 20) hx hb d_Row_restore_10 (by decide) (fun c_2 => ?_) (fun c_2 => ?_)
    · rw [if_pos c_2] at hR
      subst hR
      exact rv hC hB rfl d_Row_restore_20
    · rw [if_neg c_2] at hR
      refine lv_aload_n hx hb d_Row_restore_13 rfl (lv_at hl 0 rfl) ?_
      refine gt hC hB _ (lkC_row hk) rfl i_Row 1 (by decide) rfl kw_68 rfl d_Row_restore_14 ?_
      refine lv_iload_n hx hb d_Row_restore_17 rfl (lv_at hl 1 rfl) ?_
      refine lv_lload_n hx hb d_Row_restore_18 rfl (lv_at hl 2 rfl) ?_
      refine as_l rfl hC hB _ 1 (lkC_larr hk) rfl (vin (by assumption) (by assumption) (lnR_lt k)) d_Row_restore_19 (ws' := wsC G cI cL cQ (zL σ k x0.toNatClampNeg x1) π rest) (setC_larr hk _ _) (fun H locs hB => ?_)
      subst hR
      exact rv hC hB rfl d_Row_restore_20

set_option maxHeartbeats 400000 in
set_option maxRecDepth 100000 in
theorem c_ST_holdsName  (σ : SC) (π : PJ) (x0 : Int32) (x1 : Int32) : CM l y_ST_holdsName b_ST_holdsName 2 (some .boolean) { frames := 0, cells := 0, slots := 0, locals := 0 } D (tyL cI cL cQ) N0 N1 [.int x0, .int x1] (wsC G cI cL cQ σ π rest) (some (.int (bi (m_ST_holdsName x0 x1)))) (fun w => w = wsC G cI cL cQ σ π rest) 0 0 := by
  generalize hR : m_ST_holdsName x0 x1 = RES
  refine met_of (own := R_ST) (by decide) rfl nwl_ok ?_
  intro p e s m below meth c hC hin hB
  have hx := hC.1
  have hb := hC.2.1
  have hl := lv_entry ([.int x0, .int x1]) (n := 2) (Nat.le_of_ble_eq_true rfl)
  rw [lg_entry_eq]
  generalize (lg_sl ([.int x0, .int x1]) ++ List.replicate (2 - (lg_sl ([.int x0, .int x1])).length) Slot.unset).toArray = ls at hl ⊢
  have hl : lv_has ls 2 [(0, .int x0), (1, .int x1)] := hl
  rw [m_ST_holdsName] at hR
  refine lv_iload_n hx hb d_ST_holdsName_0 rfl (lv_at hl 0 rfl) ?_
  refine lv_iconst (v := 1) hx hb d_ST_holdsName_1 (by decide) ?_
  refine lv_iload_n hx hb d_ST_holdsName_2 rfl (lv_at hl 1 rfl) ?_
  refine lv_ishl hx hb d_ST_holdsName_3 ?_
  refine lv_iand hx hb d_ST_holdsName_4 ?_
  refine lv_if_eq (tgt := 12) hx hb d_ST_holdsName_5 (by decide) (fun c_1 => ?_) (fun c_1 => ?_)
  · rw [if_pos c_1] at hR
    refine lv_iconst (v := 0) hx hb d_ST_holdsName_12 (by decide) ?_
    subst hR
    exact rz (b := false) hC hB rfl d_ST_holdsName_13
  · rw [if_neg c_1] at hR
    refine lv_iconst (v := 1) hx hb d_ST_holdsName_8 (by decide) ?_
    refine lv_goto (tgt := 13) hx hb d_ST_holdsName_9 (by decide) ?_
    subst hR
    exact rz (b := true) hC hB rfl d_ST_holdsName_13

set_option maxHeartbeats 400000 in
set_option maxRecDepth 100000 in
theorem c_ST_read (j : Nat) (hj : j < 7) (σ : SC) (π : PJ) (x1 : Int32) : CM l y_ST_read b_ST_read 2 (some .int) { frames := 0, cells := 0, slots := 0, locals := 0 } D (tyL cI cL cQ) N0 N1 [.ref (G 3 j), .int x1] (wsC G cI cL cQ σ π rest) (some (.int (m_ST_read σ j x1))) (fun w => w = wsC G cI cL cQ σ π rest) 0 0 := by
  generalize hR : m_ST_read σ j x1 = RES
  refine met_of (own := R_ST) (by decide) rfl nwl_ok ?_
  intro p e s m below meth c hC hin hB
  have hx := hC.1
  have hb := hC.2.1
  have hl := lv_entry ([.ref (G 3 j), .int x1]) (n := 2) (Nat.le_of_ble_eq_true rfl)
  rw [lg_entry_eq]
  generalize (lg_sl ([.ref (G 3 j), .int x1]) ++ List.replicate (2 - (lg_sl ([.ref (G 3 j), .int x1])).length) Slot.unset).toArray = ls at hl ⊢
  have hl : lv_has ls 2 [(0, .ref (G 3 j)), (1, .int x1)] := hl
  rw [m_ST_read] at hR
  refine lv_iload_n hx hb d_ST_read_0 rfl (lv_at hl 1 rfl) ?_
  refine lv_if_lt (tgt := 16) hx hb d_ST_read_1 (by decide) (fun c_1 => ?_) (fun c_1 => ?_)
  · rw [if_pos c_1] at hR
    refine lv_iconst (v := (-1)) hx hb d_ST_read_16 (by decide) ?_
    subst hR
    exact ri hC hB rfl d_ST_read_17
  · rw [if_neg c_1] at hR
    refine lv_iload_n hx hb d_ST_read_4 rfl (lv_at hl 1 rfl) ?_
    refine lv_aload_n hx hb d_ST_read_5 rfl (lv_at hl 0 rfl) ?_
    refine va_alen hx hb hC.2.2.2.2.2.2.2.1.1 hB.1 _ 0 (lkC_iarr hj) rfl (v := (nI (lnI j))) rfl d_ST_read_6 ?_
    refine lv_icmp_ge (tgt := 16) hx hb d_ST_read_7 (by decide) (fun c_2 => ?_) (fun c_2 => ?_)
    · rw [if_pos c_2] at hR
      refine lv_iconst (v := (-1)) hx hb d_ST_read_16 (by decide) ?_
      subst hR
      exact ri hC hB rfl d_ST_read_17
    · rw [if_neg c_2] at hR
      refine lv_aload_n hx hb d_ST_read_10 rfl (lv_at hl 0 rfl) ?_
      refine lv_iload_n hx hb d_ST_read_11 rfl (lv_at hl 1 rfl) ?_
      refine va_iald hx hb hC.2.2.2.2.2.2.2.1.1 hB.1 _ 0 (lkC_iarr hj) rfl (vin (by assumption) (by assumption) (lnI_lt j)) d_ST_read_12 ?_
      refine lv_goto (tgt := 17) hx hb d_ST_read_13 (by decide) ?_
      subst hR
      exact ri hC hB rfl d_ST_read_17

set_option maxHeartbeats 400000 in
set_option maxRecDepth 100000 in
theorem c_ST_write (j : Nat) (hj : j < 7) (σ : SC) (π : PJ) (x1 : Int32) (x2 : Int32) : CM l y_ST_write b_ST_write 3 (none) { frames := 0, cells := 0, slots := 0, locals := 0 } D (tyL cI cL cQ) N0 N0 [.ref (G 3 j), .int x1, .int x2] (wsC G cI cL cQ σ π rest) (none) (fun w => w = wsC G cI cL cQ (m_ST_write σ j x1 x2) π rest) 0 0 := by
  generalize hR : m_ST_write σ j x1 x2 = RES
  refine met_of (own := R_ST) (by decide) rfl nwl_ok ?_
  intro p e s m below meth c hC hin hB
  have hx := hC.1
  have hb := hC.2.1
  have hl := lv_entry ([.ref (G 3 j), .int x1, .int x2]) (n := 3) (Nat.le_of_ble_eq_true rfl)
  rw [lg_entry_eq]
  generalize (lg_sl ([.ref (G 3 j), .int x1, .int x2]) ++ List.replicate (3 - (lg_sl ([.ref (G 3 j), .int x1, .int x2])).length) Slot.unset).toArray = ls at hl ⊢
  have hl : lv_has ls 3 [(0, .ref (G 3 j)), (1, .int x1), (2, .int x2)] := hl
  rw [m_ST_write] at hR
  refine lv_iload_n hx hb d_ST_write_0 rfl (lv_at hl 1 rfl) ?_
  refine lv_if_lt (tgt := 14) hx hb d_ST_write_1 (by decide) (fun c_1 => ?_) (fun c_1 => ?_)
  · rw [if_pos c_1] at hR
    subst hR
    exact rv hC hB rfl d_ST_write_14
  · rw [if_neg c_1] at hR
    refine lv_iload_n hx hb d_ST_write_4 rfl (lv_at hl 1 rfl) ?_
    refine lv_aload_n hx hb d_ST_write_5 rfl (lv_at hl 0 rfl) ?_
    refine va_alen hx hb hC.2.2.2.2.2.2.2.1.1 hB.1 _ 0 (lkC_iarr hj) rfl (v := (nI (lnI j))) rfl d_ST_write_6 ?_
    refine lv_icmp_ge (tgt := 14) hx hb d_ST_write_7 (by decide) (fun c_2 => ?_) (fun c_2 => ?_)
    · rw [if_pos c_2] at hR
      subst hR
      exact rv hC hB rfl d_ST_write_14
    · rw [if_neg c_2] at hR
      refine lv_aload_n hx hb d_ST_write_10 rfl (lv_at hl 0 rfl) ?_
      refine lv_iload_n hx hb d_ST_write_11 rfl (lv_at hl 1 rfl) ?_
      refine lv_iload_n hx hb d_ST_write_12 rfl (lv_at hl 2 rfl) ?_
      refine as_i rfl hC hB _ 0 (lkC_iarr hj) rfl (vin (by assumption) (by assumption) (lnI_lt j)) d_ST_write_13 (ws' := wsC G cI cL cQ (zI σ j x1.toNatClampNeg x2) π rest) (setC_iarr hj _ _) (fun H locs hB => ?_)
      subst hR
      exact rv hC hB rfl d_ST_write_14

set_option maxHeartbeats 400000 in
set_option maxRecDepth 100000 in
theorem w_Arrays_fillI_5 {p : Program} {e : Env} {s : State} {m : MethodId} {args : Array Value} {below : List Frame} {meth : Method} {c : Code} {RES : SC} (j : Nat) (hj : j < 7) (π : PJ) (hC : cx D classes (tyL cI cL cQ) NWL ALLW N0 p s m args meth c b_Arrays_fillI 4 (none) R_Arrays) :
    ∀ (n : Nat) (σ : SC) (v1 : Int32) (v2 : Int32) (v3 : Int32), (upI n v3 v2 ∧ v3 = nI (lnI j)) → lp_Arrays_fillI_5 n σ j v1 v2 v3 = RES → ∀ (H : Heap) (locs : List Loc), bd D classes N0 N0 (wsC G cI cL cQ σ π rest) s H locs → ∀ (ls : Array Slot), lv_has ls 4 [(0, .ref (G 3 j)), (1, .int v1), (2, .int v2), (3, .int v3)] → W p l e { frames := 0, cells := 0, slots := 0, locals := 0 } s m args below meth c H locs 0 0 (MQ below (qx D classes N0 N0 (none) (fun w => w = wsC G cI cL cQ RES π rest)) args s 0 0 (ga N0)) (F0 m 5 ls []) := by
  have hx := hC.1
  have hb := hC.2.1
  intro n
  induction n with
  | zero =>
    intro σ v1 v2 v3 hI
    exact absurd hI (fun h => up_zero h.1)
  | succ n ih =>
    intro σ v1 v2 v3 hI hR H locs hB ls hl
    rw [lp_Arrays_fillI_5] at hR
    refine lv_iload_n hx hb d_Arrays_fillI_5 rfl (lv_at hl 2 rfl) ?_
    refine lv_iload_n hx hb d_Arrays_fillI_6 rfl (lv_at hl 3 rfl) ?_
    refine lv_icmp_ge (tgt := 20) hx hb d_Arrays_fillI_7 (by decide) (fun c_1 => ?_) (fun c_1 => ?_)
    · rw [if_pos c_1] at hR
      subst hR
      exact rv hC hB rfl d_Arrays_fillI_20
    · rw [if_neg c_1] at hR
      refine lv_aload_n hx hb d_Arrays_fillI_10 rfl (lv_at hl 0 rfl) ?_
      refine lv_iload_n hx hb d_Arrays_fillI_11 rfl (lv_at hl 2 rfl) ?_
      refine lv_iload_n hx hb d_Arrays_fillI_12 rfl (lv_at hl 1 rfl) ?_
      refine as_i rfl hC hB _ 0 (lkC_iarr hj) rfl (vinU hI.1 hI.2 (by assumption) (lnI_lt j)) d_Arrays_fillI_13 (ws' := wsC G cI cL cQ (zI σ j v2.toNatClampNeg v1) π rest) (setC_iarr hj _ _) (fun H locs hB => ?_)
      refine lv_iinc (v := (v2 + 1)) (lv' := [(2, .int (v2 + 1)), (0, .ref (G 3 j)), (1, .int v1), (3, .int v3)]) hx hb d_Arrays_fillI_14 hl (k := 2) rfl rfl (by decide) rfl (fun ls hl => ?_)
      refine lv_goto (tgt := 5) hx hb d_Arrays_fillI_17 (by decide) ?_
      exact ih (zI σ j v2.toNatClampNeg v1) v1 (v2 + 1) v3 (⟨up_step hI.1 (by assumption), hI.2⟩) hR _ _ hB ls (lv_sub hl [1, 2, 0, 3] rfl)

set_option maxHeartbeats 400000 in
set_option maxRecDepth 100000 in
theorem c_Arrays_fillI (j : Nat) (hj : j < 7) (σ : SC) (π : PJ) (x1 : Int32) : CM l y_Arrays_fillI b_Arrays_fillI 4 (none) { frames := 0, cells := 0, slots := 0, locals := 0 } D (tyL cI cL cQ) N0 N0 [.ref (G 3 j), .int x1] (wsC G cI cL cQ σ π rest) (none) (fun w => w = wsC G cI cL cQ (m_Arrays_fillI σ j x1) π rest) 0 0 := by
  generalize hR : m_Arrays_fillI σ j x1 = RES
  refine met_of (own := R_Arrays) (by decide) rfl nwl_ok ?_
  intro p e s m below meth c hC hin hB
  have hx := hC.1
  have hb := hC.2.1
  have hl := lv_entry ([.ref (G 3 j), .int x1]) (n := 4) (Nat.le_of_ble_eq_true rfl)
  rw [lg_entry_eq]
  generalize (lg_sl ([.ref (G 3 j), .int x1]) ++ List.replicate (4 - (lg_sl ([.ref (G 3 j), .int x1])).length) Slot.unset).toArray = ls at hl ⊢
  have hl : lv_has ls 4 [(0, .ref (G 3 j)), (1, .int x1)] := hl
  rw [m_Arrays_fillI] at hR
  refine lv_iconst (v := 0) hx hb d_Arrays_fillI_0 (by decide) ?_
  refine lv_istore_n (lv' := [(2, .int 0), (0, .ref (G 3 j)), (1, .int x1)]) hx hb d_Arrays_fillI_1 rfl hl (by decide) rfl (fun ls hl => ?_)
  refine lv_aload_n hx hb d_Arrays_fillI_2 rfl (lv_at hl 1 rfl) ?_
  refine va_alen hx hb hC.2.2.2.2.2.2.2.1.1 hB.1 _ 0 (lkC_iarr hj) rfl (v := (nI (lnI j))) rfl d_Arrays_fillI_3 ?_
  refine lv_istore_n (lv' := [(3, .int (nI (lnI j))), (2, .int 0), (0, .ref (G 3 j)), (1, .int x1)]) hx hb d_Arrays_fillI_4 rfl hl (by decide) rfl (fun ls hl => ?_)
  exact w_Arrays_fillI_5 j hj π hC ((nI (lnI j)).toNatClampNeg + 1) σ x1 0 (nI (lnI j)) (⟨up_init _, rfl⟩) hR _ _ hB ls (lv_sub hl [2, 3, 1, 0] rfl)
end SC
