/-! THE CLASS'S WORLD: its cells as a function of an abstract value -/
abbrev Chg : Type := Nat × Int32 × Int64
/-- rows of longs, rows of ints, numbers (0 journal.count, 1 journal.next, 2 book.count, 3 lostNames), the acts' changes, the open act's changes -/
abbrev SC : Type := (Nat → Nat → Int64) × (Nat → Nat → Int32) × (Nat → Int32) × (Nat → List Chg) × List Chg
def xL (σ : SC) : Nat → Nat → Int64 := σ.1
def xI (σ : SC) : Nat → Nat → Int32 := σ.2.1
def xn (σ : SC) : Nat → Int32 := σ.2.2.1
def xa (σ : SC) : Nat → List Chg := σ.2.2.2.1
def xo (σ : SC) : List Chg := σ.2.2.2.2
def zL (σ : SC) (k i : Nat) (v : Int64) : SC := (va_up σ.1 k (vp_updL (σ.1 k) i v), σ.2)
def zI (σ : SC) (k i : Nat) (v : Int32) : SC := (σ.1, va_up σ.2.1 k (upd (σ.2.1 k) i v), σ.2.2)
def zIf (σ : SC) (k : Nat) (f : Nat → Int32) : SC := (σ.1, va_up σ.2.1 k f, σ.2.2)
def zn (σ : SC) (k : Nat) (v : Int32) : SC := (σ.1, σ.2.1, va_up σ.2.2.1 k v, σ.2.2.2)
def za (σ : SC) (k : Nat) (v : List Chg) : SC := (σ.1, σ.2.1, σ.2.2.1, va_up σ.2.2.2.1 k v, σ.2.2.2.2)
def zo (σ : SC) (v : List Chg) : SC := (σ.1, σ.2.1, σ.2.2.1, σ.2.2.2.1, v)
/-- where the changes lie: their addresses, what they hold, the acts' first ones, the open act's first one -/
abbrev PJ : Type := List Nat × (Nat → Nat × Int32 × Int64 × Option Nat) × (Nat → Option Nat) × Option Nat
/-- a chain of changes -/
def ch (LP : List Nat) (cg : Nat → Nat × Int32 × Int64 × Option Nat) : Option Nat → List Chg → Prop
  | o, [] => o = none
  | o, x :: t => ∃ (a : Nat) (b : Option Nat), o = some a ∧ a ∈ LP ∧ cg a = (x.1, x.2.1, x.2.2, b) ∧ x.1 < 19 ∧ ch LP cg b t
def RJ (π : PJ) (σ : SC) : Prop := ch π.1 π.2.1 π.2.2.2 (xo σ) ∧ ∀ j, ch π.1 π.2.1 (π.2.2.1 j) (xa σ j)
theorem ch_push {LP : List Nat} {cg : Nat → Nat × Int32 × Int64 × Option Nat} {q : Nat} {c : Nat × Int32 × Int64 × Option Nat} (hq : q ∉ LP) : ∀ {t : List Chg} {o : Option Nat}, ch LP cg o t → ch (LP ++ [q]) (va_up cg q c) o t
  | [], _, h => h
  | _ :: _, _, h => by
    obtain ⟨a, b, h1, h2, h3, h4, h5⟩ := h
    exact ⟨a, b, h1, List.mem_append_left _ h2, by rw [va_up_ne cg c (fun e : a = q => hq (e ▸ h2))]; exact h3, h4, ch_push hq h5⟩
def lnR : Nat → Nat
  | 0 => 2
  | 1 => 24
  | 2 => 60
  | 3 => 60
  | 4 => 84
  | 5 => 1920
  | 6 => 1
  | 7 => 30
  | 8 => 30
  | 9 => 240
  | 10 => 480
  | 11 => 24
  | 12 => 2
  | 13 => 10
  | 14 => 40
  | 15 => 40
  | 16 => 40
  | 17 => 920
  | 18 => 1
  | _ => 0
def lnI : Nat → Nat
  | 0 => 301
  | 1 => 301
  | 2 => 301
  | 3 => 301
  | 4 => 301
  | 5 => 24
  | 6 => 30
  | _ => 0
theorem lnR_lt (k : Nat) : lnR k < 2 ^ 31 := by unfold lnR; split <;> decide
theorem lnI_lt (k : Nat) : lnI k < 2 ^ 31 := by unfold lnI; split <;> decide
theorem vin {i : Int32} {n : Nat} (h0 : ¬ i < 0) (h1 : ¬ nI n ≤ i) (hn : n < 2 ^ 31) : vp_in i n := by
  obtain ⟨j, hj, rfl, -⟩ := pk_mu h0 h1 hn
  exact vp_in_nI hj hn
theorem sg_get {α : Type} {A B : List α} {f : Nat → α} {n k : Nat} (hk : k < n) : (A ++ ((List.range n).map f ++ B))[A.length + k]? = some (f k) := by
  rw [List.getElem?_append_right (by omega), Nat.add_sub_cancel_left, List.getElem?_append_left (by simp; omega)]
  simp [hk]
theorem sg_set {α : Type} {A B : List α} {f : Nat → α} {n k : Nat} {x : α} (hk : k < n) : (A ++ ((List.range n).map f ++ B)).set (A.length + k) x = A ++ ((List.range n).map (va_up f k x) ++ B) := by
  rw [List.set_append_right _ _ (by omega), Nat.add_sub_cancel_left, List.set_append_left _ _ (by simp; omega)]
  congr 2
  apply List.ext_getElem?
  intro j
  by_cases hj : j < n
  · by_cases h : j = k
    · subst h
      rw [List.getElem?_set_self (by simp; omega)]
      simp [hj, va_up]
    · rw [List.getElem?_set_ne (Ne.symm h)]
      simp [hj, va_up, h]
  · rw [List.getElem?_eq_none (by simp; omega), List.getElem?_eq_none (by simp; omega)]

/-- the cells -/
def obC (G : Nat → Nat → Nat) (cQ : ClassId) (σ : SC) (π : PJ) : va_W := [
  (G 0 0, .inr (CI_ST, [.ref (G 0 1), .ref (G 0 3), .ref (G 0 4), .ref (G 0 5), .ref (G 0 6), .ref (G 1 18), .int (xn σ 3)])),
  (G 0 1, .inr (CI_Journal, [.ref (G 0 2), .int (xn σ 0), .int (xn σ 1), va_rf π.2.2.2])),
  (G 0 2, .inl (cQ, 50, .inr (.inr (.inr (.inr π.2.2.1))))),
  (G 0 3, .inr (CI_Sheets, [.ref (G 1 0), .ref (G 1 1), .ref (G 1 2), .ref (G 1 3), .ref (G 1 4), .ref (G 1 5)])),
  (G 0 4, .inr (CI_Book, [.ref (G 0 3), .ref (G 3 0), .ref (G 3 1), .ref (G 3 2), .ref (G 3 3), .ref (G 3 4), .ref (G 3 5), .int (xn σ 2)])),
  (G 0 5, .inr (CI_Parts, [.ref (G 0 4), .ref (G 1 6), .ref (G 1 7), .ref (G 1 8), .ref (G 1 9), .ref (G 1 10), .ref (G 1 11), .ref (G 3 6)])),
  (G 0 6, .inr (CI_Variants, [.ref (G 0 4), .ref (G 1 12), .ref (G 1 13), .ref (G 1 14), .ref (G 1 15), .ref (G 1 16), .ref (G 1 17)]))]
def iaC (G : Nat → Nat → Nat) (cI : ClassId) (σ : SC) (j : Nat) : Nat × va_E := (G 3 j, .inl (cI, lnI j, .inl (xI σ j)))
def rwC (G : Nat → Nat → Nat) (k : Nat) : Nat × va_E := (G 1 k, .inr (CI_Row, [.ref (G 0 1), .ref (G 2 k)]))
def laC (G : Nat → Nat → Nat) (cL : ClassId) (σ : SC) (k : Nat) : Nat × va_E := (G 2 k, .inl (cL, lnR k, .inr (.inl (xL σ k))))
def cgC (G : Nat → Nat → Nat) (π : PJ) (a : Nat) : va_E := .inr (CI_Change, [.ref (G 1 (π.2.1 a).1), .int (π.2.1 a).2.1, .long (π.2.1 a).2.2.1, va_rf (π.2.1 a).2.2.2])
def wsC (G : Nat → Nat → Nat) (cI cL cQ : ClassId) (σ : SC) (π : PJ) (rest : va_W) : va_W :=
  obC G cQ σ π ++ ((List.range 7).map (iaC G cI σ) ++ ((List.range 19).map (rwC G) ++ ((List.range 19).map (laC G cL σ) ++ (rest ++ va_pl π.1 (cgC G π)))))
def pwC (G : Nat → Nat → Nat) (cI cL cQ : ClassId) (σ : SC) (rest : va_W) : va_W → Prop := fun w => ∃ π, RJ π σ ∧ w = wsC G cI cL cQ σ π rest
section LKC
variable {G : Nat → Nat → Nat} {cI cL cQ : ClassId} {σ : SC} {π : PJ} {rest : va_W}
theorem lkC_ST : (wsC G cI cL cQ σ π rest)[0]? = some (G 0 0, .inr (CI_ST, [.ref (G 0 1), .ref (G 0 3), .ref (G 0 4), .ref (G 0 5), .ref (G 0 6), .ref (G 1 18), .int (xn σ 3)])) := rfl
theorem lkC_Journal : (wsC G cI cL cQ σ π rest)[1]? = some (G 0 1, .inr (CI_Journal, [.ref (G 0 2), .int (xn σ 0), .int (xn σ 1), va_rf π.2.2.2])) := rfl
theorem lkC_acts : (wsC G cI cL cQ σ π rest)[2]? = some (G 0 2, .inl (cQ, 50, .inr (.inr (.inr (.inr π.2.2.1))))) := rfl
theorem lkC_Sheets : (wsC G cI cL cQ σ π rest)[3]? = some (G 0 3, .inr (CI_Sheets, [.ref (G 1 0), .ref (G 1 1), .ref (G 1 2), .ref (G 1 3), .ref (G 1 4), .ref (G 1 5)])) := rfl
theorem lkC_Book : (wsC G cI cL cQ σ π rest)[4]? = some (G 0 4, .inr (CI_Book, [.ref (G 0 3), .ref (G 3 0), .ref (G 3 1), .ref (G 3 2), .ref (G 3 3), .ref (G 3 4), .ref (G 3 5), .int (xn σ 2)])) := rfl
theorem lkC_Parts : (wsC G cI cL cQ σ π rest)[5]? = some (G 0 5, .inr (CI_Parts, [.ref (G 0 4), .ref (G 1 6), .ref (G 1 7), .ref (G 1 8), .ref (G 1 9), .ref (G 1 10), .ref (G 1 11), .ref (G 3 6)])) := rfl
theorem lkC_Variants : (wsC G cI cL cQ σ π rest)[6]? = some (G 0 6, .inr (CI_Variants, [.ref (G 0 4), .ref (G 1 12), .ref (G 1 13), .ref (G 1 14), .ref (G 1 15), .ref (G 1 16), .ref (G 1 17)])) := rfl
theorem lkC_iarr {j : Nat} (hj : j < 7) : (wsC G cI cL cQ σ π rest)[7 + j]? = some (G 3 j, .inl (cI, lnI j, .inl (xI σ j))) := sg_get (A := obC G cQ σ π) hj
theorem lkC_row {k : Nat} (hk : k < 19) : (wsC G cI cL cQ σ π rest)[14 + k]? = some (G 1 k, .inr (CI_Row, [.ref (G 0 1), .ref (G 2 k)])) := by
  have h := sg_get (A := obC G cQ σ π ++ (List.range 7).map (iaC G cI σ)) (f := rwC G) (B := (List.range 19).map (laC G cL σ) ++ (rest ++ va_pl π.1 (cgC G π))) hk
  rw [List.append_assoc] at h
  exact h
theorem lkC_larr {k : Nat} (hk : k < 19) : (wsC G cI cL cQ σ π rest)[33 + k]? = some (G 2 k, .inl (cL, lnR k, .inr (.inl (xL σ k)))) := by
  have h := sg_get (A := obC G cQ σ π ++ ((List.range 7).map (iaC G cI σ) ++ (List.range 19).map (rwC G))) (f := laC G cL σ) (B := rest ++ va_pl π.1 (cgC G π)) hk
  rw [List.append_assoc, List.append_assoc] at h
  exact h
theorem setC_iarr {j : Nat} (hj : j < 7) (i : Nat) (v : Int32) : (wsC G cI cL cQ σ π rest).set (7 + j) (G 3 j, .inl (cI, lnI j, .inl (upd (xI σ j) i v))) = wsC G cI cL cQ (zI σ j i v) π rest := by
  have h := sg_set (A := obC G cQ σ π) (f := iaC G cI σ) (B := (List.range 19).map (rwC G) ++ ((List.range 19).map (laC G cL σ) ++ (rest ++ va_pl π.1 (cgC G π)))) (x := (G 3 j, .inl (cI, lnI j, .inl (upd (xI σ j) i v)))) hj
  refine h.trans ?_
  have hf : va_up (iaC G cI σ) j (G 3 j, .inl (cI, lnI j, .inl (upd (xI σ j) i v))) = iaC G cI (zI σ j i v) := by
    funext q
    by_cases hq : q = j
    · subst hq; simp [va_up, iaC, xI, zI]
    · simp [va_up, iaC, xI, zI, hq]
  rw [hf]
  rfl
theorem setC_larr {k : Nat} (hk : k < 19) (i : Nat) (v : Int64) : (wsC G cI cL cQ σ π rest).set (33 + k) (G 2 k, .inl (cL, lnR k, .inr (.inl (vp_updL (xL σ k) i v)))) = wsC G cI cL cQ (zL σ k i v) π rest := by
  have h := sg_set (A := obC G cQ σ π ++ ((List.range 7).map (iaC G cI σ) ++ (List.range 19).map (rwC G))) (f := laC G cL σ) (B := rest ++ va_pl π.1 (cgC G π)) (x := (G 2 k, .inl (cL, lnR k, .inr (.inl (vp_updL (xL σ k) i v))))) hk
  rw [List.append_assoc, List.append_assoc] at h
  refine h.trans ?_
  have hf : va_up (laC G cL σ) k (G 2 k, .inl (cL, lnR k, .inr (.inl (vp_updL (xL σ k) i v)))) = laC G cL (zL σ k i v) := by
    funext q
    by_cases hq : q = k
    · subst hq; simp [va_up, laC, xL, zL]
    · simp [va_up, laC, xL, zL, hq]
  rw [hf, List.append_assoc, List.append_assoc]
  rfl
end LKC

theorem nwl_ok : ∀ w ∈ NWL, nwOk w = true := by decide
def tyL (cI cL cQ : ClassId) : List (ClassId × FieldType) := [(cI, .int), (cL, .long), (cQ, .object "SheetTrees$Change")]
abbrev CM (l : Launch) (y : MethodName) (bytes : ByteArray) (maxL : Nat) (rt : Option FieldType) (rm : Room) (D : va_G) (tys : List (ClassId × FieldType)) (N0 : Nat) (av : List Value) (ws : va_W) (v : Option Value) (PW : va_W → Prop) (mc ms : Nat) : Prop :=
  Met l y (Cond.code y bytes maxL rt :: ALLW) rm (pcx D classes tys NWL N0 av ws) (qx D classes N0 v PW) mc ms (ga N0)
section RO
variable {D : va_G} {cl : List vw_C} {N0 : Nat} {ws : va_W} {s : State}
theorem roK {X : Heap → List Loc → Prop} (h : ∀ (H : Heap) (locs : List Loc), bd D cl N0 ws s H locs → X H locs) : ∀ (H : Heap) (locs : List Loc) (w : va_W), w = ws → bd D cl N0 w s H locs → X H locs := fun H locs _ e hB => h H locs (e ▸ hB)
end RO
abbrev b_Row_longAt : ByteArray := prog_6_method_2_code
def y_Row_longAt : MethodName := ⟨"SheetTrees$Row", "longAt", "(I)J"⟩
abbrev b_Row_at : ByteArray := prog_6_method_3_code
def y_Row_at : MethodName := ⟨"SheetTrees$Row", "at", "(I)I"⟩
abbrev b_Row_restore : ByteArray := prog_6_method_5_code
def y_Row_restore : MethodName := ⟨"SheetTrees$Row", "restore", "(IJ)V"⟩
abbrev b_ST_holdsName : ByteArray := prog_1_method_37_code
def y_ST_holdsName : MethodName := ⟨"SheetTrees", "holdsName", "(II)Z"⟩
abbrev b_ST_read : ByteArray := prog_1_method_38_code
def y_ST_read : MethodName := ⟨"SheetTrees", "read", "([II)I"⟩
abbrev b_ST_write : ByteArray := prog_1_method_39_code
def y_ST_write : MethodName := ⟨"SheetTrees", "write", "([III)V"⟩
abbrev b_Sheets_sheetCount : ByteArray := prog_7_method_2_code
def y_Sheets_sheetCount : MethodName := ⟨"SheetTrees$Sheets", "sheetCount", "()I"⟩
abbrev b_Sheets_placementsLeft : ByteArray := prog_7_method_3_code
def y_Sheets_placementsLeft : MethodName := ⟨"SheetTrees$Sheets", "placementsLeft", "()I"⟩
abbrev b_Sheets_isSheet : ByteArray := prog_7_method_4_code
def y_Sheets_isSheet : MethodName := ⟨"SheetTrees$Sheets", "isSheet", "(I)Z"⟩
abbrev b_Sheets_parentOf : ByteArray := prog_7_method_7_code
def y_Sheets_parentOf : MethodName := ⟨"SheetTrees$Sheets", "parentOf", "(I)I"⟩
abbrev b_Sheets_isPlacement : ByteArray := prog_7_method_5_code
def y_Sheets_isPlacement : MethodName := ⟨"SheetTrees$Sheets", "isPlacement", "(I)Z"⟩
abbrev b_Sheets_sheetOf : ByteArray := prog_7_method_6_code
def y_Sheets_sheetOf : MethodName := ⟨"SheetTrees$Sheets", "sheetOf", "(I)I"⟩
abbrev b_Sheets_headOf : ByteArray := prog_7_method_22_code
def y_Sheets_headOf : MethodName := ⟨"SheetTrees$Sheets", "headOf", "(I)I"⟩
abbrev b_Sheets_firstOn : ByteArray := prog_7_method_8_code
def y_Sheets_firstOn : MethodName := ⟨"SheetTrees$Sheets", "firstOn", "(I)I"⟩
abbrev b_Sheets_nextOf : ByteArray := prog_7_method_9_code
def y_Sheets_nextOf : MethodName := ⟨"SheetTrees$Sheets", "nextOf", "(I)I"⟩
abbrev b_Sheets_tells : ByteArray := prog_7_method_23_code
def y_Sheets_tells : MethodName := ⟨"SheetTrees$Sheets", "tells", "(II)Z"⟩
abbrev b_Sheets_jointOf : ByteArray := prog_7_method_25_code
def y_Sheets_jointOf : MethodName := ⟨"SheetTrees$Sheets", "jointOf", "(II)I"⟩
theorem ks_1 : Cond.selects "SheetTrees$Sheets" ⟨"SheetTrees$Sheets", "headOf", "(I)I"⟩ ⟨"SheetTrees$Sheets", "headOf", "(I)I"⟩ ∈ ALLW := List.mem_filter.mpr ⟨List.mem_append_left _ (List.mem_of_getElem? (i := 1) (by decide +kernel)), rfl⟩
theorem kw_1 : (Jvm.Cond.initialized "SheetTrees") ∈ ALLW := List.mem_filter.mpr ⟨List.mem_append_right _ (List.mem_of_getElem? (i := 1) (by decide +kernel)), rfl⟩
theorem kw_3 : (Jvm.Cond.initialized "SheetTrees$Sheets") ∈ ALLW := List.mem_filter.mpr ⟨List.mem_append_right _ (List.mem_of_getElem? (i := 3) (by decide +kernel)), rfl⟩
theorem kw_4 : (Jvm.Cond.initialized "SheetTrees$Row") ∈ ALLW := List.mem_filter.mpr ⟨List.mem_append_right _ (List.mem_of_getElem? (i := 4) (by decide +kernel)), rfl⟩
theorem kw_65 : (Jvm.Cond.fieldLink "SheetTrees$Row" (21 : Nat) "SheetTrees$Row" "cells" "[J") ∈ ALLW := List.mem_filter.mpr ⟨List.mem_append_right _ (List.mem_of_getElem? (i := 65) (by decide +kernel)), rfl⟩
theorem kw_76 : (Jvm.Cond.code ({ cls := "SheetTrees$Row", name := "restore", desc := "(IJ)V" } : Jvm.MethodName) prog_6_method_5_code (4 : Nat) (Option.none : Option Jvm.ClassFile.FieldType)) ∈ ALLW := List.mem_filter.mpr ⟨List.mem_append_right _ (List.mem_of_getElem? (i := 76) (by decide +kernel)), rfl⟩
theorem kw_77 : (Jvm.Cond.fieldLink "SheetTrees$Sheets" (14 : Nat) "SheetTrees$Sheets" "counts" "LSheetTrees$Row;") ∈ ALLW := List.mem_filter.mpr ⟨List.mem_append_right _ (List.mem_of_getElem? (i := 77) (by decide +kernel)), rfl⟩
theorem kw_78 : (Jvm.Cond.fieldLink "SheetTrees$Sheets" (20 : Nat) "SheetTrees$Sheets" "nameSets" "LSheetTrees$Row;") ∈ ALLW := List.mem_filter.mpr ⟨List.mem_append_right _ (List.mem_of_getElem? (i := 78) (by decide +kernel)), rfl⟩
theorem kw_79 : (Jvm.Cond.fieldLink "SheetTrees$Sheets" (25 : Nat) "SheetTrees$Sheets" "shown" "LSheetTrees$Row;") ∈ ALLW := List.mem_filter.mpr ⟨List.mem_append_right _ (List.mem_of_getElem? (i := 79) (by decide +kernel)), rfl⟩
theorem kw_80 : (Jvm.Cond.fieldLink "SheetTrees$Sheets" (28 : Nat) "SheetTrees$Sheets" "parents" "LSheetTrees$Row;") ∈ ALLW := List.mem_filter.mpr ⟨List.mem_append_right _ (List.mem_of_getElem? (i := 80) (by decide +kernel)), rfl⟩
theorem kw_81 : (Jvm.Cond.fieldLink "SheetTrees$Sheets" (31 : Nat) "SheetTrees$Sheets" "following" "LSheetTrees$Row;") ∈ ALLW := List.mem_filter.mpr ⟨List.mem_append_right _ (List.mem_of_getElem? (i := 81) (by decide +kernel)), rfl⟩
theorem kw_82 : (Jvm.Cond.fieldLink "SheetTrees$Sheets" (34 : Nat) "SheetTrees$Sheets" "joints" "LSheetTrees$Row;") ∈ ALLW := List.mem_filter.mpr ⟨List.mem_append_right _ (List.mem_of_getElem? (i := 82) (by decide +kernel)), rfl⟩
theorem kw_208 : (Jvm.Cond.code ({ cls := "SheetTrees", name := "write", desc := "([III)V" } : Jvm.MethodName) prog_1_method_39_code (3 : Nat) (Option.none : Option Jvm.ClassFile.FieldType)) ∈ ALLW := List.mem_filter.mpr ⟨List.mem_append_right _ (List.mem_of_getElem? (i := 208) (by decide +kernel)), rfl⟩
theorem kw_215 : (Jvm.Cond.code ({ cls := "SheetTrees", name := "read", desc := "([II)I" } : Jvm.MethodName) prog_1_method_38_code (2 : Nat) (Option.some Jvm.ClassFile.FieldType.int)) ∈ ALLW := List.mem_filter.mpr ⟨List.mem_append_right _ (List.mem_of_getElem? (i := 215) (by decide +kernel)), rfl⟩
theorem kw_224 : (Jvm.Cond.code ({ cls := "SheetTrees$Sheets", name := "firstOn", desc := "(I)I" } : Jvm.MethodName) prog_7_method_8_code (2 : Nat) (Option.some Jvm.ClassFile.FieldType.int)) ∈ ALLW := List.mem_filter.mpr ⟨List.mem_append_right _ (List.mem_of_getElem? (i := 224) (by decide +kernel)), rfl⟩
theorem kw_225 : (Jvm.Cond.methodLink "SheetTrees$Sheets" (52 : Nat) ({ cls := "SheetTrees$Sheets", name := "headOf", desc := "(I)I" } : Jvm.MethodName)) ∈ ALLW := List.mem_filter.mpr ⟨List.mem_append_right _ (List.mem_of_getElem? (i := 225) (by decide +kernel)), rfl⟩
theorem kw_227 : (Jvm.Cond.instanceMethod ({ cls := "SheetTrees$Sheets", name := "headOf", desc := "(I)I" } : Jvm.MethodName)) ∈ ALLW := List.mem_filter.mpr ⟨List.mem_append_right _ (List.mem_of_getElem? (i := 227) (by decide +kernel)), rfl⟩
theorem kw_228 : (Jvm.Cond.code ({ cls := "SheetTrees$Sheets", name := "headOf", desc := "(I)I" } : Jvm.MethodName) prog_7_method_22_code (2 : Nat) (Option.some Jvm.ClassFile.FieldType.int)) ∈ ALLW := List.mem_filter.mpr ⟨List.mem_append_right _ (List.mem_of_getElem? (i := 228) (by decide +kernel)), rfl⟩
theorem kw_229 : (Jvm.Cond.methodLink "SheetTrees$Sheets" (41 : Nat) ({ cls := "SheetTrees$Row", name := "at", desc := "(I)I" } : Jvm.MethodName)) ∈ ALLW := List.mem_filter.mpr ⟨List.mem_append_right _ (List.mem_of_getElem? (i := 229) (by decide +kernel)), rfl⟩
theorem kw_230 : (Jvm.Cond.instanceMethod ({ cls := "SheetTrees$Row", name := "at", desc := "(I)I" } : Jvm.MethodName)) ∈ ALLW := List.mem_filter.mpr ⟨List.mem_append_right _ (List.mem_of_getElem? (i := 230) (by decide +kernel)), rfl⟩
theorem kw_231 : (Jvm.Cond.selects "SheetTrees$Row" ({ cls := "SheetTrees$Row", name := "at", desc := "(I)I" } : Jvm.MethodName) ({ cls := "SheetTrees$Row", name := "at", desc := "(I)I" } : Jvm.MethodName)) ∈ ALLW := List.mem_filter.mpr ⟨List.mem_append_right _ (List.mem_of_getElem? (i := 231) (by decide +kernel)), rfl⟩
theorem kw_232 : (Jvm.Cond.code ({ cls := "SheetTrees$Row", name := "at", desc := "(I)I" } : Jvm.MethodName) prog_6_method_3_code (2 : Nat) (Option.some Jvm.ClassFile.FieldType.int)) ∈ ALLW := List.mem_filter.mpr ⟨List.mem_append_right _ (List.mem_of_getElem? (i := 232) (by decide +kernel)), rfl⟩
theorem kw_240 : (Jvm.Cond.code ({ cls := "SheetTrees$Sheets", name := "nextOf", desc := "(I)I" } : Jvm.MethodName) prog_7_method_9_code (2 : Nat) (Option.some Jvm.ClassFile.FieldType.int)) ∈ ALLW := List.mem_filter.mpr ⟨List.mem_append_right _ (List.mem_of_getElem? (i := 240) (by decide +kernel)), rfl⟩
theorem kw_248 : (Jvm.Cond.code ({ cls := "SheetTrees$Sheets", name := "sheetOf", desc := "(I)I" } : Jvm.MethodName) prog_7_method_6_code (2 : Nat) (Option.some Jvm.ClassFile.FieldType.int)) ∈ ALLW := List.mem_filter.mpr ⟨List.mem_append_right _ (List.mem_of_getElem? (i := 248) (by decide +kernel)), rfl⟩
theorem kw_280 : (Jvm.Cond.instanceMethod ({ cls := "SheetTrees$Sheets", name := "sheetCount", desc := "()I" } : Jvm.MethodName)) ∈ ALLW := List.mem_filter.mpr ⟨List.mem_append_right _ (List.mem_of_getElem? (i := 280) (by decide +kernel)), rfl⟩
theorem kw_281 : (Jvm.Cond.selects "SheetTrees$Sheets" ({ cls := "SheetTrees$Sheets", name := "sheetCount", desc := "()I" } : Jvm.MethodName) ({ cls := "SheetTrees$Sheets", name := "sheetCount", desc := "()I" } : Jvm.MethodName)) ∈ ALLW := List.mem_filter.mpr ⟨List.mem_append_right _ (List.mem_of_getElem? (i := 281) (by decide +kernel)), rfl⟩
theorem kw_282 : (Jvm.Cond.code ({ cls := "SheetTrees$Sheets", name := "sheetCount", desc := "()I" } : Jvm.MethodName) prog_7_method_2_code (1 : Nat) (Option.some Jvm.ClassFile.FieldType.int)) ∈ ALLW := List.mem_filter.mpr ⟨List.mem_append_right _ (List.mem_of_getElem? (i := 282) (by decide +kernel)), rfl⟩
theorem kw_287 : (Jvm.Cond.methodLink "SheetTrees$Sheets" (45 : Nat) ({ cls := "SheetTrees$Sheets", name := "sheetCount", desc := "()I" } : Jvm.MethodName)) ∈ ALLW := List.mem_filter.mpr ⟨List.mem_append_right _ (List.mem_of_getElem? (i := 287) (by decide +kernel)), rfl⟩
theorem kw_295 : (Jvm.Cond.code ({ cls := "SheetTrees$Row", name := "longAt", desc := "(I)J" } : Jvm.MethodName) prog_6_method_2_code (2 : Nat) (Option.some Jvm.ClassFile.FieldType.long)) ∈ ALLW := List.mem_filter.mpr ⟨List.mem_append_right _ (List.mem_of_getElem? (i := 295) (by decide +kernel)), rfl⟩
theorem kw_296 : (Jvm.Cond.constantLong "SheetTrees$Row" (31 : Nat) (-1 : Int64)) ∈ ALLW := List.mem_filter.mpr ⟨List.mem_append_right _ (List.mem_of_getElem? (i := 296) (by decide +kernel)), rfl⟩
theorem kw_337 : (Jvm.Cond.static ({ cls := "SheetTrees", name := "holdsName", desc := "(II)Z" } : Jvm.MethodName)) ∈ ALLW := List.mem_filter.mpr ⟨List.mem_append_right _ (List.mem_of_getElem? (i := 337) (by decide +kernel)), rfl⟩
theorem kw_338 : (Jvm.Cond.code ({ cls := "SheetTrees", name := "holdsName", desc := "(II)Z" } : Jvm.MethodName) prog_1_method_37_code (2 : Nat) (Option.some Jvm.ClassFile.FieldType.boolean)) ∈ ALLW := List.mem_filter.mpr ⟨List.mem_append_right _ (List.mem_of_getElem? (i := 338) (by decide +kernel)), rfl⟩
theorem kw_383 : (Jvm.Cond.code ({ cls := "SheetTrees$Sheets", name := "isSheet", desc := "(I)Z" } : Jvm.MethodName) prog_7_method_4_code (2 : Nat) (Option.some Jvm.ClassFile.FieldType.boolean)) ∈ ALLW := List.mem_filter.mpr ⟨List.mem_append_right _ (List.mem_of_getElem? (i := 383) (by decide +kernel)), rfl⟩
theorem kw_454 : (Jvm.Cond.code ({ cls := "SheetTrees$Sheets", name := "placementsLeft", desc := "()I" } : Jvm.MethodName) prog_7_method_3_code (1 : Nat) (Option.some Jvm.ClassFile.FieldType.int)) ∈ ALLW := List.mem_filter.mpr ⟨List.mem_append_right _ (List.mem_of_getElem? (i := 454) (by decide +kernel)), rfl⟩
theorem kw_466 : (Jvm.Cond.code ({ cls := "SheetTrees$Sheets", name := "isPlacement", desc := "(I)Z" } : Jvm.MethodName) prog_7_method_5_code (2 : Nat) (Option.some Jvm.ClassFile.FieldType.boolean)) ∈ ALLW := List.mem_filter.mpr ⟨List.mem_append_right _ (List.mem_of_getElem? (i := 466) (by decide +kernel)), rfl⟩
theorem kw_467 : (Jvm.Cond.methodLink "SheetTrees$Sheets" (49 : Nat) ({ cls := "SheetTrees$Sheets", name := "parentOf", desc := "(I)I" } : Jvm.MethodName)) ∈ ALLW := List.mem_filter.mpr ⟨List.mem_append_right _ (List.mem_of_getElem? (i := 467) (by decide +kernel)), rfl⟩
theorem kw_468 : (Jvm.Cond.instanceMethod ({ cls := "SheetTrees$Sheets", name := "parentOf", desc := "(I)I" } : Jvm.MethodName)) ∈ ALLW := List.mem_filter.mpr ⟨List.mem_append_right _ (List.mem_of_getElem? (i := 468) (by decide +kernel)), rfl⟩
theorem kw_469 : (Jvm.Cond.selects "SheetTrees$Sheets" ({ cls := "SheetTrees$Sheets", name := "parentOf", desc := "(I)I" } : Jvm.MethodName) ({ cls := "SheetTrees$Sheets", name := "parentOf", desc := "(I)I" } : Jvm.MethodName)) ∈ ALLW := List.mem_filter.mpr ⟨List.mem_append_right _ (List.mem_of_getElem? (i := 469) (by decide +kernel)), rfl⟩
theorem kw_470 : (Jvm.Cond.code ({ cls := "SheetTrees$Sheets", name := "parentOf", desc := "(I)I" } : Jvm.MethodName) prog_7_method_7_code (2 : Nat) (Option.some Jvm.ClassFile.FieldType.int)) ∈ ALLW := List.mem_filter.mpr ⟨List.mem_append_right _ (List.mem_of_getElem? (i := 470) (by decide +kernel)), rfl⟩
theorem kw_530 : (Jvm.Cond.code ({ cls := "SheetTrees$Sheets", name := "jointOf", desc := "(II)I" } : Jvm.MethodName) prog_7_method_25_code (3 : Nat) (Option.some Jvm.ClassFile.FieldType.int)) ∈ ALLW := List.mem_filter.mpr ⟨List.mem_append_right _ (List.mem_of_getElem? (i := 530) (by decide +kernel)), rfl⟩
theorem kw_534 : (Jvm.Cond.code ({ cls := "SheetTrees$Sheets", name := "tells", desc := "(II)Z" } : Jvm.MethodName) prog_7_method_23_code (3 : Nat) (Option.some Jvm.ClassFile.FieldType.boolean)) ∈ ALLW := List.mem_filter.mpr ⟨List.mem_append_right _ (List.mem_of_getElem? (i := 534) (by decide +kernel)), rfl⟩
theorem mf_Row_longAt : mf ALLW "SheetTrees$Row" y_Row_longAt b_Row_longAt 2 (some .long) 1 := ⟨kw_295, kw_4, rfl, by decide, by decide, by decide +kernel⟩
theorem mf_Row_at : mf ALLW "SheetTrees$Row" y_Row_at b_Row_at 2 (some .int) 1 := ⟨kw_232, kw_4, rfl, by decide, by decide, by decide +kernel⟩
theorem mf_Row_restore : mf ALLW "SheetTrees$Row" y_Row_restore b_Row_restore 4 (none) 2 := ⟨kw_76, kw_4, rfl, by decide, by decide, by decide +kernel⟩
theorem mf_ST_holdsName : mf ALLW "SheetTrees" y_ST_holdsName b_ST_holdsName 2 (some .boolean) 2 := ⟨kw_338, kw_1, rfl, by decide, by decide, by decide +kernel⟩
theorem mf_ST_read : mf ALLW "SheetTrees" y_ST_read b_ST_read 2 (some .int) 2 := ⟨kw_215, kw_1, rfl, by decide, by decide, by decide +kernel⟩
theorem mf_ST_write : mf ALLW "SheetTrees" y_ST_write b_ST_write 3 (none) 3 := ⟨kw_208, kw_1, rfl, by decide, by decide, by decide +kernel⟩
theorem mf_Sheets_sheetCount : mf ALLW "SheetTrees$Sheets" y_Sheets_sheetCount b_Sheets_sheetCount 1 (some .int) 0 := ⟨kw_282, kw_3, rfl, by decide, by decide, by decide +kernel⟩
theorem mf_Sheets_placementsLeft : mf ALLW "SheetTrees$Sheets" y_Sheets_placementsLeft b_Sheets_placementsLeft 1 (some .int) 0 := ⟨kw_454, kw_3, rfl, by decide, by decide, by decide +kernel⟩
theorem mf_Sheets_isSheet : mf ALLW "SheetTrees$Sheets" y_Sheets_isSheet b_Sheets_isSheet 2 (some .boolean) 1 := ⟨kw_383, kw_3, rfl, by decide, by decide, by decide +kernel⟩
theorem mf_Sheets_parentOf : mf ALLW "SheetTrees$Sheets" y_Sheets_parentOf b_Sheets_parentOf 2 (some .int) 1 := ⟨kw_470, kw_3, rfl, by decide, by decide, by decide +kernel⟩
theorem mf_Sheets_isPlacement : mf ALLW "SheetTrees$Sheets" y_Sheets_isPlacement b_Sheets_isPlacement 2 (some .boolean) 1 := ⟨kw_466, kw_3, rfl, by decide, by decide, by decide +kernel⟩
theorem mf_Sheets_sheetOf : mf ALLW "SheetTrees$Sheets" y_Sheets_sheetOf b_Sheets_sheetOf 2 (some .int) 1 := ⟨kw_248, kw_3, rfl, by decide, by decide, by decide +kernel⟩
theorem mf_Sheets_headOf : mf ALLW "SheetTrees$Sheets" y_Sheets_headOf b_Sheets_headOf 2 (some .int) 1 := ⟨kw_228, kw_3, rfl, by decide, by decide, by decide +kernel⟩
theorem mf_Sheets_firstOn : mf ALLW "SheetTrees$Sheets" y_Sheets_firstOn b_Sheets_firstOn 2 (some .int) 1 := ⟨kw_224, kw_3, rfl, by decide, by decide, by decide +kernel⟩
theorem mf_Sheets_nextOf : mf ALLW "SheetTrees$Sheets" y_Sheets_nextOf b_Sheets_nextOf 2 (some .int) 1 := ⟨kw_240, kw_3, rfl, by decide, by decide, by decide +kernel⟩
theorem mf_Sheets_tells : mf ALLW "SheetTrees$Sheets" y_Sheets_tells b_Sheets_tells 3 (some .boolean) 2 := ⟨kw_534, kw_3, rfl, by decide, by decide, by decide +kernel⟩
theorem mf_Sheets_jointOf : mf ALLW "SheetTrees$Sheets" y_Sheets_jointOf b_Sheets_jointOf 3 (some .int) 2 := ⟨kw_530, kw_3, rfl, by decide, by decide, by decide +kernel⟩
theorem d_Row_longAt_0 : decode b_Row_longAt 0 = .ok (.iload_n 1, 1) := by decide +kernel
theorem d_Row_longAt_1 : decode b_Row_longAt 1 = .ok (.ifCond .lt 21, 3) := by decide +kernel
theorem d_Row_longAt_4 : decode b_Row_longAt 4 = .ok (.iload_n 1, 1) := by decide +kernel
theorem d_Row_longAt_5 : decode b_Row_longAt 5 = .ok (.aload_n 0, 1) := by decide +kernel
theorem d_Row_longAt_6 : decode b_Row_longAt 6 = .ok (.getfield 21, 3) := by decide +kernel
theorem d_Row_longAt_9 : decode b_Row_longAt 9 = .ok (.arraylength, 1) := by decide +kernel
theorem d_Row_longAt_10 : decode b_Row_longAt 10 = .ok (.if_icmp .ge 12, 3) := by decide +kernel
theorem d_Row_longAt_13 : decode b_Row_longAt 13 = .ok (.aload_n 0, 1) := by decide +kernel
theorem d_Row_longAt_14 : decode b_Row_longAt 14 = .ok (.getfield 21, 3) := by decide +kernel
theorem d_Row_longAt_17 : decode b_Row_longAt 17 = .ok (.iload_n 1, 1) := by decide +kernel
theorem d_Row_longAt_18 : decode b_Row_longAt 18 = .ok (.laload, 1) := by decide +kernel
theorem d_Row_longAt_19 : decode b_Row_longAt 19 = .ok (.goto 6, 3) := by decide +kernel
theorem d_Row_longAt_22 : decode b_Row_longAt 22 = .ok (.ldc2_w 31, 3) := by decide +kernel
theorem d_Row_longAt_25 : decode b_Row_longAt 25 = .ok (.lreturn, 1) := by decide +kernel
theorem d_Row_at_0 : decode b_Row_at 0 = .ok (.iload_n 1, 1) := by decide +kernel
theorem d_Row_at_1 : decode b_Row_at 1 = .ok (.ifCond .lt 22, 3) := by decide +kernel
theorem d_Row_at_4 : decode b_Row_at 4 = .ok (.iload_n 1, 1) := by decide +kernel
theorem d_Row_at_5 : decode b_Row_at 5 = .ok (.aload_n 0, 1) := by decide +kernel
theorem d_Row_at_6 : decode b_Row_at 6 = .ok (.getfield 21, 3) := by decide +kernel
theorem d_Row_at_9 : decode b_Row_at 9 = .ok (.arraylength, 1) := by decide +kernel
theorem d_Row_at_10 : decode b_Row_at 10 = .ok (.if_icmp .ge 13, 3) := by decide +kernel
theorem d_Row_at_13 : decode b_Row_at 13 = .ok (.aload_n 0, 1) := by decide +kernel
theorem d_Row_at_14 : decode b_Row_at 14 = .ok (.getfield 21, 3) := by decide +kernel
theorem d_Row_at_17 : decode b_Row_at 17 = .ok (.iload_n 1, 1) := by decide +kernel
theorem d_Row_at_18 : decode b_Row_at 18 = .ok (.laload, 1) := by decide +kernel
theorem d_Row_at_19 : decode b_Row_at 19 = .ok (.l2i, 1) := by decide +kernel
theorem d_Row_at_20 : decode b_Row_at 20 = .ok (.goto 4, 3) := by decide +kernel
theorem d_Row_at_23 : decode b_Row_at 23 = .ok (.iconst (-1), 1) := by decide +kernel
theorem d_Row_at_24 : decode b_Row_at 24 = .ok (.ireturn, 1) := by decide +kernel
theorem d_Row_restore_0 : decode b_Row_restore 0 = .ok (.iload_n 1, 1) := by decide +kernel
theorem d_Row_restore_1 : decode b_Row_restore 1 = .ok (.ifCond .lt 19, 3) := by decide +kernel
theorem d_Row_restore_4 : decode b_Row_restore 4 = .ok (.iload_n 1, 1) := by decide +kernel
theorem d_Row_restore_5 : decode b_Row_restore 5 = .ok (.aload_n 0, 1) := by decide +kernel
theorem d_Row_restore_6 : decode b_Row_restore 6 = .ok (.getfield 21, 3) := by decide +kernel
theorem d_Row_restore_9 : decode b_Row_restore 9 = .ok (.arraylength, 1) := by decide +kernel
theorem d_Row_restore_10 : decode b_Row_restore 10 = .ok (.if_icmp .ge 10, 3) := by decide +kernel
theorem d_Row_restore_13 : decode b_Row_restore 13 = .ok (.aload_n 0, 1) := by decide +kernel
theorem d_Row_restore_14 : decode b_Row_restore 14 = .ok (.getfield 21, 3) := by decide +kernel
theorem d_Row_restore_17 : decode b_Row_restore 17 = .ok (.iload_n 1, 1) := by decide +kernel
theorem d_Row_restore_18 : decode b_Row_restore 18 = .ok (.lload_n 2, 1) := by decide +kernel
theorem d_Row_restore_19 : decode b_Row_restore 19 = .ok (.lastore, 1) := by decide +kernel
theorem d_Row_restore_20 : decode b_Row_restore 20 = .ok (.return_, 1) := by decide +kernel
theorem d_ST_holdsName_0 : decode b_ST_holdsName 0 = .ok (.iload_n 0, 1) := by decide +kernel
theorem d_ST_holdsName_1 : decode b_ST_holdsName 1 = .ok (.iconst 1, 1) := by decide +kernel
theorem d_ST_holdsName_2 : decode b_ST_holdsName 2 = .ok (.iload_n 1, 1) := by decide +kernel
theorem d_ST_holdsName_3 : decode b_ST_holdsName 3 = .ok (.ishl, 1) := by decide +kernel
theorem d_ST_holdsName_4 : decode b_ST_holdsName 4 = .ok (.iand, 1) := by decide +kernel
theorem d_ST_holdsName_5 : decode b_ST_holdsName 5 = .ok (.ifCond .eq 7, 3) := by decide +kernel
theorem d_ST_holdsName_8 : decode b_ST_holdsName 8 = .ok (.iconst 1, 1) := by decide +kernel
theorem d_ST_holdsName_9 : decode b_ST_holdsName 9 = .ok (.goto 4, 3) := by decide +kernel
theorem d_ST_holdsName_12 : decode b_ST_holdsName 12 = .ok (.iconst 0, 1) := by decide +kernel
theorem d_ST_holdsName_13 : decode b_ST_holdsName 13 = .ok (.ireturn, 1) := by decide +kernel
theorem d_ST_read_0 : decode b_ST_read 0 = .ok (.iload_n 1, 1) := by decide +kernel
theorem d_ST_read_1 : decode b_ST_read 1 = .ok (.ifCond .lt 15, 3) := by decide +kernel
theorem d_ST_read_4 : decode b_ST_read 4 = .ok (.iload_n 1, 1) := by decide +kernel
theorem d_ST_read_5 : decode b_ST_read 5 = .ok (.aload_n 0, 1) := by decide +kernel
theorem d_ST_read_6 : decode b_ST_read 6 = .ok (.arraylength, 1) := by decide +kernel
theorem d_ST_read_7 : decode b_ST_read 7 = .ok (.if_icmp .ge 9, 3) := by decide +kernel
theorem d_ST_read_10 : decode b_ST_read 10 = .ok (.aload_n 0, 1) := by decide +kernel
theorem d_ST_read_11 : decode b_ST_read 11 = .ok (.iload_n 1, 1) := by decide +kernel
theorem d_ST_read_12 : decode b_ST_read 12 = .ok (.iaload, 1) := by decide +kernel
theorem d_ST_read_13 : decode b_ST_read 13 = .ok (.goto 4, 3) := by decide +kernel
theorem d_ST_read_16 : decode b_ST_read 16 = .ok (.iconst (-1), 1) := by decide +kernel
theorem d_ST_read_17 : decode b_ST_read 17 = .ok (.ireturn, 1) := by decide +kernel
theorem d_ST_write_0 : decode b_ST_write 0 = .ok (.iload_n 1, 1) := by decide +kernel
theorem d_ST_write_1 : decode b_ST_write 1 = .ok (.ifCond .lt 13, 3) := by decide +kernel
theorem d_ST_write_4 : decode b_ST_write 4 = .ok (.iload_n 1, 1) := by decide +kernel
theorem d_ST_write_5 : decode b_ST_write 5 = .ok (.aload_n 0, 1) := by decide +kernel
theorem d_ST_write_6 : decode b_ST_write 6 = .ok (.arraylength, 1) := by decide +kernel
theorem d_ST_write_7 : decode b_ST_write 7 = .ok (.if_icmp .ge 7, 3) := by decide +kernel
theorem d_ST_write_10 : decode b_ST_write 10 = .ok (.aload_n 0, 1) := by decide +kernel
theorem d_ST_write_11 : decode b_ST_write 11 = .ok (.iload_n 1, 1) := by decide +kernel
theorem d_ST_write_12 : decode b_ST_write 12 = .ok (.iload_n 2, 1) := by decide +kernel
theorem d_ST_write_13 : decode b_ST_write 13 = .ok (.iastore, 1) := by decide +kernel
theorem d_ST_write_14 : decode b_ST_write 14 = .ok (.return_, 1) := by decide +kernel
theorem d_Sheets_sheetCount_0 : decode b_Sheets_sheetCount 0 = .ok (.aload_n 0, 1) := by decide +kernel
theorem d_Sheets_sheetCount_1 : decode b_Sheets_sheetCount 1 = .ok (.getfield 14, 3) := by decide +kernel
theorem d_Sheets_sheetCount_4 : decode b_Sheets_sheetCount 4 = .ok (.iconst 0, 1) := by decide +kernel
theorem d_Sheets_sheetCount_5 : decode b_Sheets_sheetCount 5 = .ok (.invokevirtual 41, 3) := by decide +kernel
theorem d_Sheets_sheetCount_8 : decode b_Sheets_sheetCount 8 = .ok (.ireturn, 1) := by decide +kernel
theorem d_Sheets_placementsLeft_0 : decode b_Sheets_placementsLeft 0 = .ok (.bipush 60, 2) := by decide +kernel
theorem d_Sheets_placementsLeft_2 : decode b_Sheets_placementsLeft 2 = .ok (.aload_n 0, 1) := by decide +kernel
theorem d_Sheets_placementsLeft_3 : decode b_Sheets_placementsLeft 3 = .ok (.getfield 14, 3) := by decide +kernel
theorem d_Sheets_placementsLeft_6 : decode b_Sheets_placementsLeft 6 = .ok (.iconst 1, 1) := by decide +kernel
theorem d_Sheets_placementsLeft_7 : decode b_Sheets_placementsLeft 7 = .ok (.invokevirtual 41, 3) := by decide +kernel
theorem d_Sheets_placementsLeft_10 : decode b_Sheets_placementsLeft 10 = .ok (.isub, 1) := by decide +kernel
theorem d_Sheets_placementsLeft_11 : decode b_Sheets_placementsLeft 11 = .ok (.ireturn, 1) := by decide +kernel
theorem d_Sheets_isSheet_0 : decode b_Sheets_isSheet 0 = .ok (.iload_n 1, 1) := by decide +kernel
theorem d_Sheets_isSheet_1 : decode b_Sheets_isSheet 1 = .ok (.ifCond .lt 15, 3) := by decide +kernel
theorem d_Sheets_isSheet_4 : decode b_Sheets_isSheet 4 = .ok (.iload_n 1, 1) := by decide +kernel
theorem d_Sheets_isSheet_5 : decode b_Sheets_isSheet 5 = .ok (.aload_n 0, 1) := by decide +kernel
theorem d_Sheets_isSheet_6 : decode b_Sheets_isSheet 6 = .ok (.invokevirtual 45, 3) := by decide +kernel
theorem d_Sheets_isSheet_9 : decode b_Sheets_isSheet 9 = .ok (.if_icmp .ge 7, 3) := by decide +kernel
theorem d_Sheets_isSheet_12 : decode b_Sheets_isSheet 12 = .ok (.iconst 1, 1) := by decide +kernel
theorem d_Sheets_isSheet_13 : decode b_Sheets_isSheet 13 = .ok (.goto 4, 3) := by decide +kernel
theorem d_Sheets_isSheet_16 : decode b_Sheets_isSheet 16 = .ok (.iconst 0, 1) := by decide +kernel
theorem d_Sheets_isSheet_17 : decode b_Sheets_isSheet 17 = .ok (.ireturn, 1) := by decide +kernel
theorem d_Sheets_parentOf_0 : decode b_Sheets_parentOf 0 = .ok (.aload_n 0, 1) := by decide +kernel
theorem d_Sheets_parentOf_1 : decode b_Sheets_parentOf 1 = .ok (.getfield 28, 3) := by decide +kernel
theorem d_Sheets_parentOf_4 : decode b_Sheets_parentOf 4 = .ok (.iload_n 1, 1) := by decide +kernel
theorem d_Sheets_parentOf_5 : decode b_Sheets_parentOf 5 = .ok (.invokevirtual 41, 3) := by decide +kernel
theorem d_Sheets_parentOf_8 : decode b_Sheets_parentOf 8 = .ok (.ireturn, 1) := by decide +kernel
theorem d_Sheets_isPlacement_0 : decode b_Sheets_isPlacement 0 = .ok (.aload_n 0, 1) := by decide +kernel
theorem d_Sheets_isPlacement_1 : decode b_Sheets_isPlacement 1 = .ok (.iload_n 1, 1) := by decide +kernel
theorem d_Sheets_isPlacement_2 : decode b_Sheets_isPlacement 2 = .ok (.invokevirtual 49, 3) := by decide +kernel
theorem d_Sheets_isPlacement_5 : decode b_Sheets_isPlacement 5 = .ok (.iconst (-1), 1) := by decide +kernel
theorem d_Sheets_isPlacement_6 : decode b_Sheets_isPlacement 6 = .ok (.if_icmp .eq 7, 3) := by decide +kernel
theorem d_Sheets_isPlacement_9 : decode b_Sheets_isPlacement 9 = .ok (.iconst 1, 1) := by decide +kernel
theorem d_Sheets_isPlacement_10 : decode b_Sheets_isPlacement 10 = .ok (.goto 4, 3) := by decide +kernel
theorem d_Sheets_isPlacement_13 : decode b_Sheets_isPlacement 13 = .ok (.iconst 0, 1) := by decide +kernel
theorem d_Sheets_isPlacement_14 : decode b_Sheets_isPlacement 14 = .ok (.ireturn, 1) := by decide +kernel
theorem d_Sheets_sheetOf_0 : decode b_Sheets_sheetOf 0 = .ok (.aload_n 0, 1) := by decide +kernel
theorem d_Sheets_sheetOf_1 : decode b_Sheets_sheetOf 1 = .ok (.getfield 25, 3) := by decide +kernel
theorem d_Sheets_sheetOf_4 : decode b_Sheets_sheetOf 4 = .ok (.iload_n 1, 1) := by decide +kernel
theorem d_Sheets_sheetOf_5 : decode b_Sheets_sheetOf 5 = .ok (.invokevirtual 41, 3) := by decide +kernel
theorem d_Sheets_sheetOf_8 : decode b_Sheets_sheetOf 8 = .ok (.ireturn, 1) := by decide +kernel
theorem d_Sheets_headOf_0 : decode b_Sheets_headOf 0 = .ok (.bipush 60, 2) := by decide +kernel
theorem d_Sheets_headOf_2 : decode b_Sheets_headOf 2 = .ok (.iload_n 1, 1) := by decide +kernel
theorem d_Sheets_headOf_3 : decode b_Sheets_headOf 3 = .ok (.iadd, 1) := by decide +kernel
theorem d_Sheets_headOf_4 : decode b_Sheets_headOf 4 = .ok (.ireturn, 1) := by decide +kernel
theorem d_Sheets_firstOn_0 : decode b_Sheets_firstOn 0 = .ok (.aload_n 0, 1) := by decide +kernel
theorem d_Sheets_firstOn_1 : decode b_Sheets_firstOn 1 = .ok (.getfield 31, 3) := by decide +kernel
theorem d_Sheets_firstOn_4 : decode b_Sheets_firstOn 4 = .ok (.aload_n 0, 1) := by decide +kernel
theorem d_Sheets_firstOn_5 : decode b_Sheets_firstOn 5 = .ok (.iload_n 1, 1) := by decide +kernel
theorem d_Sheets_firstOn_6 : decode b_Sheets_firstOn 6 = .ok (.invokevirtual 52, 3) := by decide +kernel
theorem d_Sheets_firstOn_9 : decode b_Sheets_firstOn 9 = .ok (.invokevirtual 41, 3) := by decide +kernel
theorem d_Sheets_firstOn_12 : decode b_Sheets_firstOn 12 = .ok (.ireturn, 1) := by decide +kernel
theorem d_Sheets_nextOf_0 : decode b_Sheets_nextOf 0 = .ok (.aload_n 0, 1) := by decide +kernel
theorem d_Sheets_nextOf_1 : decode b_Sheets_nextOf 1 = .ok (.getfield 31, 3) := by decide +kernel
theorem d_Sheets_nextOf_4 : decode b_Sheets_nextOf 4 = .ok (.iload_n 1, 1) := by decide +kernel
theorem d_Sheets_nextOf_5 : decode b_Sheets_nextOf 5 = .ok (.invokevirtual 41, 3) := by decide +kernel
theorem d_Sheets_nextOf_8 : decode b_Sheets_nextOf 8 = .ok (.ireturn, 1) := by decide +kernel
theorem d_Sheets_tells_0 : decode b_Sheets_tells 0 = .ok (.aload_n 0, 1) := by decide +kernel
theorem d_Sheets_tells_1 : decode b_Sheets_tells 1 = .ok (.getfield 20, 3) := by decide +kernel
theorem d_Sheets_tells_4 : decode b_Sheets_tells 4 = .ok (.iload_n 1, 1) := by decide +kernel
theorem d_Sheets_tells_5 : decode b_Sheets_tells 5 = .ok (.invokevirtual 41, 3) := by decide +kernel
theorem d_Sheets_tells_8 : decode b_Sheets_tells 8 = .ok (.iload_n 2, 1) := by decide +kernel
theorem d_Sheets_tells_9 : decode b_Sheets_tells 9 = .ok (.invokestatic 106, 3) := by decide +kernel
theorem d_Sheets_tells_12 : decode b_Sheets_tells 12 = .ok (.ireturn, 1) := by decide +kernel
theorem d_Sheets_jointOf_0 : decode b_Sheets_jointOf 0 = .ok (.aload_n 0, 1) := by decide +kernel
theorem d_Sheets_jointOf_1 : decode b_Sheets_jointOf 1 = .ok (.getfield 34, 3) := by decide +kernel
theorem d_Sheets_jointOf_4 : decode b_Sheets_jointOf 4 = .ok (.iload_n 1, 1) := by decide +kernel
theorem d_Sheets_jointOf_5 : decode b_Sheets_jointOf 5 = .ok (.bipush 32, 2) := by decide +kernel
theorem d_Sheets_jointOf_7 : decode b_Sheets_jointOf 7 = .ok (.imul, 1) := by decide +kernel
theorem d_Sheets_jointOf_8 : decode b_Sheets_jointOf 8 = .ok (.iload_n 2, 1) := by decide +kernel
theorem d_Sheets_jointOf_9 : decode b_Sheets_jointOf 9 = .ok (.iadd, 1) := by decide +kernel
theorem d_Sheets_jointOf_10 : decode b_Sheets_jointOf 10 = .ok (.invokevirtual 41, 3) := by decide +kernel
theorem d_Sheets_jointOf_13 : decode b_Sheets_jointOf 13 = .ok (.ireturn, 1) := by decide +kernel
def m_Row_longAt (σ : SC) (k : Nat) (x0 : Int32) : Int64 :=
  if x0 < 0 then
    (-1)
  else
    if (nI (lnR k)) ≤ x0 then
      (-1)
    else
      (xL σ k x0.toNatClampNeg)

def m_Row_at (σ : SC) (k : Nat) (x0 : Int32) : Int32 :=
  if x0 < 0 then
    (-1)
  else
    if (nI (lnR k)) ≤ x0 then
      (-1)
    else
      (xL σ k x0.toNatClampNeg).toInt32

def m_Row_restore (σ : SC) (k : Nat) (x0 : Int32) (x1 : Int64) : SC :=
  if x0 < 0 then
    σ
  else
    if (nI (lnR k)) ≤ x0 then
      σ
    else
      (zL σ k x0.toNatClampNeg x1)

def m_ST_holdsName (x0 : Int32) (x1 : Int32) : Bool :=
  if (x0 &&& (1 <<< (x1 &&& 31))) = 0 then
    false
  else
    true

def m_ST_read (σ : SC) (j : Nat) (x1 : Int32) : Int32 :=
  if x1 < 0 then
    (-1)
  else
    if (nI (lnI j)) ≤ x1 then
      (-1)
    else
      (xI σ j x1.toNatClampNeg)

def m_ST_write (σ : SC) (j : Nat) (x1 : Int32) (x2 : Int32) : SC :=
  if x1 < 0 then
    σ
  else
    if (nI (lnI j)) ≤ x1 then
      σ
    else
      (zI σ j x1.toNatClampNeg x2)

def m_Sheets_sheetCount (σ : SC) : Int32 :=
  (m_Row_at σ 0 0)

def m_Sheets_placementsLeft (σ : SC) : Int32 :=
  (60 - (m_Row_at σ 0 1))

def m_Sheets_isSheet (σ : SC) (x0 : Int32) : Bool :=
  if x0 < 0 then
    false
  else
    if (m_Sheets_sheetCount σ) ≤ x0 then
      false
    else
      true

def m_Sheets_parentOf (σ : SC) (x0 : Int32) : Int32 :=
  (m_Row_at σ 3 x0)

def m_Sheets_isPlacement (σ : SC) (x0 : Int32) : Bool :=
  if (m_Sheets_parentOf σ x0) = (-1) then
    false
  else
    true

def m_Sheets_sheetOf (σ : SC) (x0 : Int32) : Int32 :=
  (m_Row_at σ 2 x0)

def m_Sheets_headOf (σ : SC) (x0 : Int32) : Int32 :=
  (60 + x0)

def m_Sheets_firstOn (σ : SC) (x0 : Int32) : Int32 :=
  (m_Row_at σ 4 (m_Sheets_headOf σ x0))

def m_Sheets_nextOf (σ : SC) (x0 : Int32) : Int32 :=
  (m_Row_at σ 4 x0)

def m_Sheets_tells (σ : SC) (x0 : Int32) (x1 : Int32) : Bool :=
  (m_ST_holdsName (m_Row_at σ 1 x0) x1)

def m_Sheets_jointOf (σ : SC) (x0 : Int32) (x1 : Int32) : Int32 :=
  (m_Row_at σ 5 ((x0 * 32) + x1))

section SC
variable {l : Launch} {D : va_G} {N0 : Nat} {G : Nat → Nat → Nat} {cI cL cQ : ClassId} {rest : va_W}
set_option maxHeartbeats 4000000 in
set_option maxRecDepth 100000 in
theorem c_Row_longAt (k : Nat) (hk : k < 19) (σ : SC) (π : PJ) (x0 : Int32) : CM l y_Row_longAt b_Row_longAt 2 (some .long) { frames := 0, cells := 0, slots := 0, locals := 0 } D (tyL cI cL cQ) N0 [.ref (G 1 k), .int x0] (wsC G cI cL cQ σ π rest) (some (.long (m_Row_longAt σ k x0))) (fun w => w = wsC G cI cL cQ σ π rest) 0 0 := by
  generalize hR : m_Row_longAt σ k x0 = RES
  refine met_of (own := R_Row) (by decide) rfl nwl_ok ?_
  intro p e s m below meth c hC hin hB
  have hx := hC.1
  have hb := hC.2.1
  have hl := lv_entry ([.ref (G 1 k), .int x0]) (n := 2) (Nat.le_of_ble_eq_true rfl)
  rw [lg_entry_eq]
  generalize (lg_sl ([.ref (G 1 k), .int x0]) ++ List.replicate (2 - (lg_sl ([.ref (G 1 k), .int x0])).length) Slot.unset).toArray = ls at hl ⊢
  have hl : lv_has ls 2 [(0, .ref (G 1 k)), (1, .int x0)] := hl
  rw [m_Row_longAt] at hR
  refine lv_iload_n hx hb d_Row_longAt_0 rfl (lv_at hl 1 rfl) ?_
  refine lv_if_lt (tgt := 22) hx hb d_Row_longAt_1 (by decide) (fun c_1 => ?_) (fun c_1 => ?_)
  · rw [if_pos c_1] at hR
    refine lv_ldc2 (v := (-1)) hx hb hC.2.2.2.2.1 (hC.2.2.2.2.2.1 _ kw_296) d_Row_longAt_22 ?_
    subst hR
    exact rl hC hB rfl d_Row_longAt_25
  · rw [if_neg c_1] at hR
    refine lv_iload_n hx hb d_Row_longAt_4 rfl (lv_at hl 1 rfl) ?_
    refine lv_aload_n hx hb d_Row_longAt_5 rfl (lv_at hl 0 rfl) ?_
    refine gt hC hB _ (lkC_row hk) rfl i_Row 1 (by decide) rfl kw_65 rfl d_Row_longAt_6 ?_
    refine va_alen hx hb hC.2.2.2.2.2.2.2.1.1 hB.1 _ 1 (lkC_larr hk) rfl (v := (nI (lnR k))) rfl d_Row_longAt_9 ?_
    refine lv_icmp_ge (tgt := 22) hx hb d_Row_longAt_10 (by decide) (fun c_2 => ?_) (fun c_2 => ?_)
    · rw [if_pos c_2] at hR
      refine lv_ldc2 (v := (-1)) hx hb hC.2.2.2.2.1 (hC.2.2.2.2.2.1 _ kw_296) d_Row_longAt_22 ?_
      subst hR
      exact rl hC hB rfl d_Row_longAt_25
    · rw [if_neg c_2] at hR
      refine lv_aload_n hx hb d_Row_longAt_13 rfl (lv_at hl 0 rfl) ?_
      refine gt hC hB _ (lkC_row hk) rfl i_Row 1 (by decide) rfl kw_65 rfl d_Row_longAt_14 ?_
      refine lv_iload_n hx hb d_Row_longAt_17 rfl (lv_at hl 1 rfl) ?_
      refine va_lald hx hb hC.2.2.2.2.2.2.2.1.1 hB.1 _ 1 (lkC_larr hk) rfl (vin (by assumption) (by assumption) (lnR_lt k)) d_Row_longAt_18 ?_
      refine lv_goto (tgt := 25) hx hb d_Row_longAt_19 (by decide) ?_
      subst hR
      exact rl hC hB rfl d_Row_longAt_25

set_option maxHeartbeats 4000000 in
set_option maxRecDepth 100000 in
theorem c_Row_at (k : Nat) (hk : k < 19) (σ : SC) (π : PJ) (x0 : Int32) : CM l y_Row_at b_Row_at 2 (some .int) { frames := 0, cells := 0, slots := 0, locals := 0 } D (tyL cI cL cQ) N0 [.ref (G 1 k), .int x0] (wsC G cI cL cQ σ π rest) (some (.int (m_Row_at σ k x0))) (fun w => w = wsC G cI cL cQ σ π rest) 0 0 := by
  generalize hR : m_Row_at σ k x0 = RES
  refine met_of (own := R_Row) (by decide) rfl nwl_ok ?_
  intro p e s m below meth c hC hin hB
  have hx := hC.1
  have hb := hC.2.1
  have hl := lv_entry ([.ref (G 1 k), .int x0]) (n := 2) (Nat.le_of_ble_eq_true rfl)
  rw [lg_entry_eq]
  generalize (lg_sl ([.ref (G 1 k), .int x0]) ++ List.replicate (2 - (lg_sl ([.ref (G 1 k), .int x0])).length) Slot.unset).toArray = ls at hl ⊢
  have hl : lv_has ls 2 [(0, .ref (G 1 k)), (1, .int x0)] := hl
  rw [m_Row_at] at hR
  refine lv_iload_n hx hb d_Row_at_0 rfl (lv_at hl 1 rfl) ?_
  refine lv_if_lt (tgt := 23) hx hb d_Row_at_1 (by decide) (fun c_1 => ?_) (fun c_1 => ?_)
  · rw [if_pos c_1] at hR
    refine lv_iconst (v := (-1)) hx hb d_Row_at_23 (by decide) ?_
    subst hR
    exact ri hC hB rfl d_Row_at_24
  · rw [if_neg c_1] at hR
    refine lv_iload_n hx hb d_Row_at_4 rfl (lv_at hl 1 rfl) ?_
    refine lv_aload_n hx hb d_Row_at_5 rfl (lv_at hl 0 rfl) ?_
    refine gt hC hB _ (lkC_row hk) rfl i_Row 1 (by decide) rfl kw_65 rfl d_Row_at_6 ?_
    refine va_alen hx hb hC.2.2.2.2.2.2.2.1.1 hB.1 _ 1 (lkC_larr hk) rfl (v := (nI (lnR k))) rfl d_Row_at_9 ?_
    refine lv_icmp_ge (tgt := 23) hx hb d_Row_at_10 (by decide) (fun c_2 => ?_) (fun c_2 => ?_)
    · rw [if_pos c_2] at hR
      refine lv_iconst (v := (-1)) hx hb d_Row_at_23 (by decide) ?_
      subst hR
      exact ri hC hB rfl d_Row_at_24
    · rw [if_neg c_2] at hR
      refine lv_aload_n hx hb d_Row_at_13 rfl (lv_at hl 0 rfl) ?_
      refine gt hC hB _ (lkC_row hk) rfl i_Row 1 (by decide) rfl kw_65 rfl d_Row_at_14 ?_
      refine lv_iload_n hx hb d_Row_at_17 rfl (lv_at hl 1 rfl) ?_
      refine va_lald hx hb hC.2.2.2.2.2.2.2.1.1 hB.1 _ 1 (lkC_larr hk) rfl (vin (by assumption) (by assumption) (lnR_lt k)) d_Row_at_18 ?_
      refine lv_l2i hx hb d_Row_at_19 rfl ?_
      refine lv_goto (tgt := 24) hx hb d_Row_at_20 (by decide) ?_
      subst hR
      exact ri hC hB rfl d_Row_at_24

set_option maxHeartbeats 4000000 in
set_option maxRecDepth 100000 in
theorem c_Row_restore (k : Nat) (hk : k < 19) (σ : SC) (π : PJ) (hπ : RJ π σ) (x0 : Int32) (x1 : Int64) : CM l y_Row_restore b_Row_restore 4 (none) { frames := 0, cells := 0, slots := 0, locals := 0 } D (tyL cI cL cQ) N0 [.ref (G 1 k), .int x0, .long x1] (wsC G cI cL cQ σ π rest) (none) (pwC G cI cL cQ (m_Row_restore σ k x0 x1) rest) 0 0 := by
  generalize hR : m_Row_restore σ k x0 x1 = RES
  refine met_of (own := R_Row) (by decide) rfl nwl_ok ?_
  intro p e s m below meth c hC hin hB
  have hx := hC.1
  have hb := hC.2.1
  have hl := lv_entry ([.ref (G 1 k), .int x0, .long x1]) (n := 4) (Nat.le_of_ble_eq_true rfl)
  rw [lg_entry_eq]
  generalize (lg_sl ([.ref (G 1 k), .int x0, .long x1]) ++ List.replicate (4 - (lg_sl ([.ref (G 1 k), .int x0, .long x1])).length) Slot.unset).toArray = ls at hl ⊢
  have hl : lv_has ls 4 [(0, .ref (G 1 k)), (1, .int x0), (2, .long x1)] := hl
  rw [m_Row_restore] at hR
  refine lv_iload_n hx hb d_Row_restore_0 rfl (lv_at hl 1 rfl) ?_
  refine lv_if_lt (tgt := 20) hx hb d_Row_restore_1 (by decide) (fun c_1 => ?_) (fun c_1 => ?_)
  · rw [if_pos c_1] at hR
    subst hR
    exact rv hC hB ⟨π, hπ, rfl⟩ d_Row_restore_20
  · rw [if_neg c_1] at hR
    refine lv_iload_n hx hb d_Row_restore_4 rfl (lv_at hl 1 rfl) ?_
    refine lv_aload_n hx hb d_Row_restore_5 rfl (lv_at hl 0 rfl) ?_
    refine gt hC hB _ (lkC_row hk) rfl i_Row 1 (by decide) rfl kw_65 rfl d_Row_restore_6 ?_
    refine va_alen hx hb hC.2.2.2.2.2.2.2.1.1 hB.1 _ 1 (lkC_larr hk) rfl (v := (nI (lnR k))) rfl d_Row_restore_9 ?_
    refine lv_icmp_ge (tgt := 20) hx hb d_Row_restore_10 (by decide) (fun c_2 => ?_) (fun c_2 => ?_)
    · rw [if_pos c_2] at hR
      subst hR
      exact rv hC hB ⟨π, hπ, rfl⟩ d_Row_restore_20
    · rw [if_neg c_2] at hR
      refine lv_aload_n hx hb d_Row_restore_13 rfl (lv_at hl 0 rfl) ?_
      refine gt hC hB _ (lkC_row hk) rfl i_Row 1 (by decide) rfl kw_65 rfl d_Row_restore_14 ?_
      refine lv_iload_n hx hb d_Row_restore_17 rfl (lv_at hl 1 rfl) ?_
      refine lv_lload_n hx hb d_Row_restore_18 rfl (lv_at hl 2 rfl) ?_
      refine as_l hC hB _ 1 (lkC_larr hk) rfl (vin (by assumption) (by assumption) (lnR_lt k)) d_Row_restore_19 (ws' := wsC G cI cL cQ (zL σ k x0.toNatClampNeg x1) π rest) (setC_larr hk _ _) (fun H locs hB => ?_)
      subst hR
      exact rv hC hB ⟨π, hπ, rfl⟩ d_Row_restore_20

set_option maxHeartbeats 4000000 in
set_option maxRecDepth 100000 in
theorem c_ST_holdsName  (σ : SC) (π : PJ) (x0 : Int32) (x1 : Int32) : CM l y_ST_holdsName b_ST_holdsName 2 (some .boolean) { frames := 0, cells := 0, slots := 0, locals := 0 } D (tyL cI cL cQ) N0 [.int x0, .int x1] (wsC G cI cL cQ σ π rest) (some (.int (bi (m_ST_holdsName x0 x1)))) (fun w => w = wsC G cI cL cQ σ π rest) 0 0 := by
  generalize hR : m_ST_holdsName x0 x1 = RES
  refine met_of (own := R_ST) (by decide) rfl nwl_ok ?_
  intro p e s m below meth c hC hin hB
  have hx := hC.1
  have hb := hC.2.1
  have hl := lv_entry ([.int x0, .int x1]) (n := 2) (Nat.le_of_ble_eq_true rfl)
  rw [lg_entry_eq]
  generalize (lg_sl ([.int x0, .int x1]) ++ List.replicate (2 - (lg_sl ([.int x0, .int x1])).length) Slot.unset).toArray = ls at hl ⊢
  have hl : lv_has ls 2 [(0, .int x0), (1, .int x1)] := hl
  rw [m_ST_holdsName] at hR
  refine lv_iload_n hx hb d_ST_holdsName_0 rfl (lv_at hl 0 rfl) ?_
  refine lv_iconst (v := 1) hx hb d_ST_holdsName_1 (by decide) ?_
  refine lv_iload_n hx hb d_ST_holdsName_2 rfl (lv_at hl 1 rfl) ?_
  refine lv_ishl hx hb d_ST_holdsName_3 ?_
  refine lv_iand hx hb d_ST_holdsName_4 ?_
  refine lv_if_eq (tgt := 12) hx hb d_ST_holdsName_5 (by decide) (fun c_1 => ?_) (fun c_1 => ?_)
  · rw [if_pos c_1] at hR
    refine lv_iconst (v := 0) hx hb d_ST_holdsName_12 (by decide) ?_
    subst hR
    exact rz (b := false) hC hB rfl d_ST_holdsName_13
  · rw [if_neg c_1] at hR
    refine lv_iconst (v := 1) hx hb d_ST_holdsName_8 (by decide) ?_
    refine lv_goto (tgt := 13) hx hb d_ST_holdsName_9 (by decide) ?_
    subst hR
    exact rz (b := true) hC hB rfl d_ST_holdsName_13

set_option maxHeartbeats 4000000 in
set_option maxRecDepth 100000 in
theorem c_ST_read (j : Nat) (hj : j < 7) (σ : SC) (π : PJ) (x1 : Int32) : CM l y_ST_read b_ST_read 2 (some .int) { frames := 0, cells := 0, slots := 0, locals := 0 } D (tyL cI cL cQ) N0 [.ref (G 3 j), .int x1] (wsC G cI cL cQ σ π rest) (some (.int (m_ST_read σ j x1))) (fun w => w = wsC G cI cL cQ σ π rest) 0 0 := by
  generalize hR : m_ST_read σ j x1 = RES
  refine met_of (own := R_ST) (by decide) rfl nwl_ok ?_
  intro p e s m below meth c hC hin hB
  have hx := hC.1
  have hb := hC.2.1
  have hl := lv_entry ([.ref (G 3 j), .int x1]) (n := 2) (Nat.le_of_ble_eq_true rfl)
  rw [lg_entry_eq]
  generalize (lg_sl ([.ref (G 3 j), .int x1]) ++ List.replicate (2 - (lg_sl ([.ref (G 3 j), .int x1])).length) Slot.unset).toArray = ls at hl ⊢
  have hl : lv_has ls 2 [(0, .ref (G 3 j)), (1, .int x1)] := hl
  rw [m_ST_read] at hR
  refine lv_iload_n hx hb d_ST_read_0 rfl (lv_at hl 1 rfl) ?_
  refine lv_if_lt (tgt := 16) hx hb d_ST_read_1 (by decide) (fun c_1 => ?_) (fun c_1 => ?_)
  · rw [if_pos c_1] at hR
    refine lv_iconst (v := (-1)) hx hb d_ST_read_16 (by decide) ?_
    subst hR
    exact ri hC hB rfl d_ST_read_17
  · rw [if_neg c_1] at hR
    refine lv_iload_n hx hb d_ST_read_4 rfl (lv_at hl 1 rfl) ?_
    refine lv_aload_n hx hb d_ST_read_5 rfl (lv_at hl 0 rfl) ?_
    refine va_alen hx hb hC.2.2.2.2.2.2.2.1.1 hB.1 _ 0 (lkC_iarr hj) rfl (v := (nI (lnI j))) rfl d_ST_read_6 ?_
    refine lv_icmp_ge (tgt := 16) hx hb d_ST_read_7 (by decide) (fun c_2 => ?_) (fun c_2 => ?_)
    · rw [if_pos c_2] at hR
      refine lv_iconst (v := (-1)) hx hb d_ST_read_16 (by decide) ?_
      subst hR
      exact ri hC hB rfl d_ST_read_17
    · rw [if_neg c_2] at hR
      refine lv_aload_n hx hb d_ST_read_10 rfl (lv_at hl 0 rfl) ?_
      refine lv_iload_n hx hb d_ST_read_11 rfl (lv_at hl 1 rfl) ?_
      refine va_iald hx hb hC.2.2.2.2.2.2.2.1.1 hB.1 _ 0 (lkC_iarr hj) rfl (vin (by assumption) (by assumption) (lnI_lt j)) d_ST_read_12 ?_
      refine lv_goto (tgt := 17) hx hb d_ST_read_13 (by decide) ?_
      subst hR
      exact ri hC hB rfl d_ST_read_17

set_option maxHeartbeats 4000000 in
set_option maxRecDepth 100000 in
theorem c_ST_write (j : Nat) (hj : j < 7) (σ : SC) (π : PJ) (hπ : RJ π σ) (x1 : Int32) (x2 : Int32) : CM l y_ST_write b_ST_write 3 (none) { frames := 0, cells := 0, slots := 0, locals := 0 } D (tyL cI cL cQ) N0 [.ref (G 3 j), .int x1, .int x2] (wsC G cI cL cQ σ π rest) (none) (pwC G cI cL cQ (m_ST_write σ j x1 x2) rest) 0 0 := by
  generalize hR : m_ST_write σ j x1 x2 = RES
  refine met_of (own := R_ST) (by decide) rfl nwl_ok ?_
  intro p e s m below meth c hC hin hB
  have hx := hC.1
  have hb := hC.2.1
  have hl := lv_entry ([.ref (G 3 j), .int x1, .int x2]) (n := 3) (Nat.le_of_ble_eq_true rfl)
  rw [lg_entry_eq]
  generalize (lg_sl ([.ref (G 3 j), .int x1, .int x2]) ++ List.replicate (3 - (lg_sl ([.ref (G 3 j), .int x1, .int x2])).length) Slot.unset).toArray = ls at hl ⊢
  have hl : lv_has ls 3 [(0, .ref (G 3 j)), (1, .int x1), (2, .int x2)] := hl
  rw [m_ST_write] at hR
  refine lv_iload_n hx hb d_ST_write_0 rfl (lv_at hl 1 rfl) ?_
  refine lv_if_lt (tgt := 14) hx hb d_ST_write_1 (by decide) (fun c_1 => ?_) (fun c_1 => ?_)
  · rw [if_pos c_1] at hR
    subst hR
    exact rv hC hB ⟨π, hπ, rfl⟩ d_ST_write_14
  · rw [if_neg c_1] at hR
    refine lv_iload_n hx hb d_ST_write_4 rfl (lv_at hl 1 rfl) ?_
    refine lv_aload_n hx hb d_ST_write_5 rfl (lv_at hl 0 rfl) ?_
    refine va_alen hx hb hC.2.2.2.2.2.2.2.1.1 hB.1 _ 0 (lkC_iarr hj) rfl (v := (nI (lnI j))) rfl d_ST_write_6 ?_
    refine lv_icmp_ge (tgt := 14) hx hb d_ST_write_7 (by decide) (fun c_2 => ?_) (fun c_2 => ?_)
    · rw [if_pos c_2] at hR
      subst hR
      exact rv hC hB ⟨π, hπ, rfl⟩ d_ST_write_14
    · rw [if_neg c_2] at hR
      refine lv_aload_n hx hb d_ST_write_10 rfl (lv_at hl 0 rfl) ?_
      refine lv_iload_n hx hb d_ST_write_11 rfl (lv_at hl 1 rfl) ?_
      refine lv_iload_n hx hb d_ST_write_12 rfl (lv_at hl 2 rfl) ?_
      refine as_i hC hB _ 0 (lkC_iarr hj) rfl (vin (by assumption) (by assumption) (lnI_lt j)) d_ST_write_13 (ws' := wsC G cI cL cQ (zI σ j x1.toNatClampNeg x2) π rest) (setC_iarr hj _ _) (fun H locs hB => ?_)
      subst hR
      exact rv hC hB ⟨π, hπ, rfl⟩ d_ST_write_14

set_option maxHeartbeats 4000000 in
set_option maxRecDepth 100000 in
theorem c_Sheets_sheetCount  (σ : SC) (π : PJ)  : CM l y_Sheets_sheetCount b_Sheets_sheetCount 1 (some .int) { frames := 1, cells := 0, slots := 0, locals := 21 } D (tyL cI cL cQ) N0 [.ref (G 0 3)] (wsC G cI cL cQ σ π rest) (some (.int (m_Sheets_sheetCount σ))) (fun w => w = wsC G cI cL cQ σ π rest) 0 0 := by
  generalize hR : m_Sheets_sheetCount σ = RES
  refine met_of (own := R_Sheets) (by decide) rfl nwl_ok ?_
  intro p e s m below meth c hC hin hB
  have hx := hC.1
  have hb := hC.2.1
  have hl := lv_entry ([.ref (G 0 3)]) (n := 1) (Nat.le_of_ble_eq_true rfl)
  rw [lg_entry_eq]
  generalize (lg_sl ([.ref (G 0 3)]) ++ List.replicate (1 - (lg_sl ([.ref (G 0 3)])).length) Slot.unset).toArray = ls at hl ⊢
  have hl : lv_has ls 1 [(0, .ref (G 0 3))] := hl
  rw [m_Sheets_sheetCount] at hR
  refine lv_aload_n hx hb d_Sheets_sheetCount_0 rfl (lv_at hl 0 rfl) ?_
  refine gt hC hB _ lkC_Sheets rfl i_Sheets 0 (by decide) rfl kw_77 rfl d_Sheets_sheetCount_1 ?_
  refine lv_iconst (v := 0) hx hb d_Sheets_sheetCount_4 (by decide) ?_
  refine kV hC hB _ (lkC_row (by decide)) rfl (c_Row_at 0 (by decide) σ π 0) allw_ok mf_Row_at kw_230 kw_231 kw_229 ⟨rfl, rfl, Nat.le_of_ble_eq_true rfl, Nat.le_of_ble_eq_true rfl⟩ rfl rfl hl.1 (Nat.le_of_ble_eq_true rfl) d_Sheets_sheetCount_5 ⟨Nat.le_of_ble_eq_true rfl, Nat.le_of_ble_eq_true rfl⟩ (roK fun H locs hB => ?_)
  subst hR
  exact ri hC hB rfl d_Sheets_sheetCount_8

set_option maxHeartbeats 4000000 in
set_option maxRecDepth 100000 in
theorem c_Sheets_placementsLeft  (σ : SC) (π : PJ)  : CM l y_Sheets_placementsLeft b_Sheets_placementsLeft 1 (some .int) { frames := 1, cells := 0, slots := 0, locals := 21 } D (tyL cI cL cQ) N0 [.ref (G 0 3)] (wsC G cI cL cQ σ π rest) (some (.int (m_Sheets_placementsLeft σ))) (fun w => w = wsC G cI cL cQ σ π rest) 0 0 := by
  generalize hR : m_Sheets_placementsLeft σ = RES
  refine met_of (own := R_Sheets) (by decide) rfl nwl_ok ?_
  intro p e s m below meth c hC hin hB
  have hx := hC.1
  have hb := hC.2.1
  have hl := lv_entry ([.ref (G 0 3)]) (n := 1) (Nat.le_of_ble_eq_true rfl)
  rw [lg_entry_eq]
  generalize (lg_sl ([.ref (G 0 3)]) ++ List.replicate (1 - (lg_sl ([.ref (G 0 3)])).length) Slot.unset).toArray = ls at hl ⊢
  have hl : lv_has ls 1 [(0, .ref (G 0 3))] := hl
  rw [m_Sheets_placementsLeft] at hR
  refine lv_bipush (v := 60) hx hb d_Sheets_placementsLeft_0 (by decide) ?_
  refine lv_aload_n hx hb d_Sheets_placementsLeft_2 rfl (lv_at hl 0 rfl) ?_
  refine gt hC hB _ lkC_Sheets rfl i_Sheets 0 (by decide) rfl kw_77 rfl d_Sheets_placementsLeft_3 ?_
  refine lv_iconst (v := 1) hx hb d_Sheets_placementsLeft_6 (by decide) ?_
  refine kV hC hB _ (lkC_row (by decide)) rfl (c_Row_at 0 (by decide) σ π 1) allw_ok mf_Row_at kw_230 kw_231 kw_229 ⟨rfl, rfl, Nat.le_of_ble_eq_true rfl, Nat.le_of_ble_eq_true rfl⟩ rfl rfl hl.1 (Nat.le_of_ble_eq_true rfl) d_Sheets_placementsLeft_7 ⟨Nat.le_of_ble_eq_true rfl, Nat.le_of_ble_eq_true rfl⟩ (roK fun H locs hB => ?_)
  refine lv_isub hx hb d_Sheets_placementsLeft_10 ?_
  subst hR
  exact ri hC hB rfl d_Sheets_placementsLeft_11

set_option maxHeartbeats 4000000 in
set_option maxRecDepth 100000 in
theorem c_Sheets_isSheet  (σ : SC) (π : PJ) (x0 : Int32) : CM l y_Sheets_isSheet b_Sheets_isSheet 2 (some .boolean) { frames := 2, cells := 0, slots := 0, locals := 41 } D (tyL cI cL cQ) N0 [.ref (G 0 3), .int x0] (wsC G cI cL cQ σ π rest) (some (.int (bi (m_Sheets_isSheet σ x0)))) (fun w => w = wsC G cI cL cQ σ π rest) 0 0 := by
  generalize hR : m_Sheets_isSheet σ x0 = RES
  refine met_of (own := R_Sheets) (by decide) rfl nwl_ok ?_
  intro p e s m below meth c hC hin hB
  have hx := hC.1
  have hb := hC.2.1
  have hl := lv_entry ([.ref (G 0 3), .int x0]) (n := 2) (Nat.le_of_ble_eq_true rfl)
  rw [lg_entry_eq]
  generalize (lg_sl ([.ref (G 0 3), .int x0]) ++ List.replicate (2 - (lg_sl ([.ref (G 0 3), .int x0])).length) Slot.unset).toArray = ls at hl ⊢
  have hl : lv_has ls 2 [(0, .ref (G 0 3)), (1, .int x0)] := hl
  rw [m_Sheets_isSheet] at hR
  refine lv_iload_n hx hb d_Sheets_isSheet_0 rfl (lv_at hl 1 rfl) ?_
  refine lv_if_lt (tgt := 16) hx hb d_Sheets_isSheet_1 (by decide) (fun c_1 => ?_) (fun c_1 => ?_)
  · rw [if_pos c_1] at hR
    refine lv_iconst (v := 0) hx hb d_Sheets_isSheet_16 (by decide) ?_
    subst hR
    exact rz (b := false) hC hB rfl d_Sheets_isSheet_17
  · rw [if_neg c_1] at hR
    refine lv_iload_n hx hb d_Sheets_isSheet_4 rfl (lv_at hl 1 rfl) ?_
    refine lv_aload_n hx hb d_Sheets_isSheet_5 rfl (lv_at hl 0 rfl) ?_
    refine kV hC hB _ lkC_Sheets rfl (c_Sheets_sheetCount σ π) allw_ok mf_Sheets_sheetCount kw_280 kw_281 kw_287 ⟨rfl, rfl, Nat.le_of_ble_eq_true rfl, Nat.le_of_ble_eq_true rfl⟩ rfl rfl hl.1 (Nat.le_of_ble_eq_true rfl) d_Sheets_isSheet_6 ⟨Nat.le_of_ble_eq_true rfl, Nat.le_of_ble_eq_true rfl⟩ (roK fun H locs hB => ?_)
    refine lv_icmp_ge (tgt := 16) hx hb d_Sheets_isSheet_9 (by decide) (fun c_2 => ?_) (fun c_2 => ?_)
    · rw [if_pos c_2] at hR
      refine lv_iconst (v := 0) hx hb d_Sheets_isSheet_16 (by decide) ?_
      subst hR
      exact rz (b := false) hC hB rfl d_Sheets_isSheet_17
    · rw [if_neg c_2] at hR
      refine lv_iconst (v := 1) hx hb d_Sheets_isSheet_12 (by decide) ?_
      refine lv_goto (tgt := 17) hx hb d_Sheets_isSheet_13 (by decide) ?_
      subst hR
      exact rz (b := true) hC hB rfl d_Sheets_isSheet_17

set_option maxHeartbeats 4000000 in
set_option maxRecDepth 100000 in
theorem c_Sheets_parentOf  (σ : SC) (π : PJ) (x0 : Int32) : CM l y_Sheets_parentOf b_Sheets_parentOf 2 (some .int) { frames := 1, cells := 0, slots := 0, locals := 21 } D (tyL cI cL cQ) N0 [.ref (G 0 3), .int x0] (wsC G cI cL cQ σ π rest) (some (.int (m_Sheets_parentOf σ x0))) (fun w => w = wsC G cI cL cQ σ π rest) 0 0 := by
  generalize hR : m_Sheets_parentOf σ x0 = RES
  refine met_of (own := R_Sheets) (by decide) rfl nwl_ok ?_
  intro p e s m below meth c hC hin hB
  have hx := hC.1
  have hb := hC.2.1
  have hl := lv_entry ([.ref (G 0 3), .int x0]) (n := 2) (Nat.le_of_ble_eq_true rfl)
  rw [lg_entry_eq]
  generalize (lg_sl ([.ref (G 0 3), .int x0]) ++ List.replicate (2 - (lg_sl ([.ref (G 0 3), .int x0])).length) Slot.unset).toArray = ls at hl ⊢
  have hl : lv_has ls 2 [(0, .ref (G 0 3)), (1, .int x0)] := hl
  rw [m_Sheets_parentOf] at hR
  refine lv_aload_n hx hb d_Sheets_parentOf_0 rfl (lv_at hl 0 rfl) ?_
  refine gt hC hB _ lkC_Sheets rfl i_Sheets 3 (by decide) rfl kw_80 rfl d_Sheets_parentOf_1 ?_
  refine lv_iload_n hx hb d_Sheets_parentOf_4 rfl (lv_at hl 1 rfl) ?_
  refine kV hC hB _ (lkC_row (by decide)) rfl (c_Row_at 3 (by decide) σ π x0) allw_ok mf_Row_at kw_230 kw_231 kw_229 ⟨rfl, rfl, Nat.le_of_ble_eq_true rfl, Nat.le_of_ble_eq_true rfl⟩ rfl rfl hl.1 (Nat.le_of_ble_eq_true rfl) d_Sheets_parentOf_5 ⟨Nat.le_of_ble_eq_true rfl, Nat.le_of_ble_eq_true rfl⟩ (roK fun H locs hB => ?_)
  subst hR
  exact ri hC hB rfl d_Sheets_parentOf_8

set_option maxHeartbeats 4000000 in
set_option maxRecDepth 100000 in
theorem c_Sheets_isPlacement  (σ : SC) (π : PJ) (x0 : Int32) : CM l y_Sheets_isPlacement b_Sheets_isPlacement 2 (some .boolean) { frames := 2, cells := 0, slots := 0, locals := 42 } D (tyL cI cL cQ) N0 [.ref (G 0 3), .int x0] (wsC G cI cL cQ σ π rest) (some (.int (bi (m_Sheets_isPlacement σ x0)))) (fun w => w = wsC G cI cL cQ σ π rest) 0 0 := by
  generalize hR : m_Sheets_isPlacement σ x0 = RES
  refine met_of (own := R_Sheets) (by decide) rfl nwl_ok ?_
  intro p e s m below meth c hC hin hB
  have hx := hC.1
  have hb := hC.2.1
  have hl := lv_entry ([.ref (G 0 3), .int x0]) (n := 2) (Nat.le_of_ble_eq_true rfl)
  rw [lg_entry_eq]
  generalize (lg_sl ([.ref (G 0 3), .int x0]) ++ List.replicate (2 - (lg_sl ([.ref (G 0 3), .int x0])).length) Slot.unset).toArray = ls at hl ⊢
  have hl : lv_has ls 2 [(0, .ref (G 0 3)), (1, .int x0)] := hl
  rw [m_Sheets_isPlacement] at hR
  refine lv_aload_n hx hb d_Sheets_isPlacement_0 rfl (lv_at hl 0 rfl) ?_
  refine lv_iload_n hx hb d_Sheets_isPlacement_1 rfl (lv_at hl 1 rfl) ?_
  refine kV hC hB _ lkC_Sheets rfl (c_Sheets_parentOf σ π x0) allw_ok mf_Sheets_parentOf kw_468 kw_469 kw_467 ⟨rfl, rfl, Nat.le_of_ble_eq_true rfl, Nat.le_of_ble_eq_true rfl⟩ rfl rfl hl.1 (Nat.le_of_ble_eq_true rfl) d_Sheets_isPlacement_2 ⟨Nat.le_of_ble_eq_true rfl, Nat.le_of_ble_eq_true rfl⟩ (roK fun H locs hB => ?_)
  refine lv_iconst (v := (-1)) hx hb d_Sheets_isPlacement_5 (by decide) ?_
  refine lv_icmp_eq (tgt := 13) hx hb d_Sheets_isPlacement_6 (by decide) (fun c_1 => ?_) (fun c_1 => ?_)
  · rw [if_pos c_1] at hR
    refine lv_iconst (v := 0) hx hb d_Sheets_isPlacement_13 (by decide) ?_
    subst hR
    exact rz (b := false) hC hB rfl d_Sheets_isPlacement_14
  · rw [if_neg c_1] at hR
    refine lv_iconst (v := 1) hx hb d_Sheets_isPlacement_9 (by decide) ?_
    refine lv_goto (tgt := 14) hx hb d_Sheets_isPlacement_10 (by decide) ?_
    subst hR
    exact rz (b := true) hC hB rfl d_Sheets_isPlacement_14

set_option maxHeartbeats 4000000 in
set_option maxRecDepth 100000 in
theorem c_Sheets_sheetOf  (σ : SC) (π : PJ) (x0 : Int32) : CM l y_Sheets_sheetOf b_Sheets_sheetOf 2 (some .int) { frames := 1, cells := 0, slots := 0, locals := 21 } D (tyL cI cL cQ) N0 [.ref (G 0 3), .int x0] (wsC G cI cL cQ σ π rest) (some (.int (m_Sheets_sheetOf σ x0))) (fun w => w = wsC G cI cL cQ σ π rest) 0 0 := by
  generalize hR : m_Sheets_sheetOf σ x0 = RES
  refine met_of (own := R_Sheets) (by decide) rfl nwl_ok ?_
  intro p e s m below meth c hC hin hB
  have hx := hC.1
  have hb := hC.2.1
  have hl := lv_entry ([.ref (G 0 3), .int x0]) (n := 2) (Nat.le_of_ble_eq_true rfl)
  rw [lg_entry_eq]
  generalize (lg_sl ([.ref (G 0 3), .int x0]) ++ List.replicate (2 - (lg_sl ([.ref (G 0 3), .int x0])).length) Slot.unset).toArray = ls at hl ⊢
  have hl : lv_has ls 2 [(0, .ref (G 0 3)), (1, .int x0)] := hl
  rw [m_Sheets_sheetOf] at hR
  refine lv_aload_n hx hb d_Sheets_sheetOf_0 rfl (lv_at hl 0 rfl) ?_
  refine gt hC hB _ lkC_Sheets rfl i_Sheets 2 (by decide) rfl kw_79 rfl d_Sheets_sheetOf_1 ?_
  refine lv_iload_n hx hb d_Sheets_sheetOf_4 rfl (lv_at hl 1 rfl) ?_
  refine kV hC hB _ (lkC_row (by decide)) rfl (c_Row_at 2 (by decide) σ π x0) allw_ok mf_Row_at kw_230 kw_231 kw_229 ⟨rfl, rfl, Nat.le_of_ble_eq_true rfl, Nat.le_of_ble_eq_true rfl⟩ rfl rfl hl.1 (Nat.le_of_ble_eq_true rfl) d_Sheets_sheetOf_5 ⟨Nat.le_of_ble_eq_true rfl, Nat.le_of_ble_eq_true rfl⟩ (roK fun H locs hB => ?_)
  subst hR
  exact ri hC hB rfl d_Sheets_sheetOf_8

set_option maxHeartbeats 4000000 in
set_option maxRecDepth 100000 in
theorem c_Sheets_headOf  (σ : SC) (π : PJ) (x0 : Int32) : CM l y_Sheets_headOf b_Sheets_headOf 2 (some .int) { frames := 0, cells := 0, slots := 0, locals := 0 } D (tyL cI cL cQ) N0 [.ref (G 0 3), .int x0] (wsC G cI cL cQ σ π rest) (some (.int (m_Sheets_headOf σ x0))) (fun w => w = wsC G cI cL cQ σ π rest) 0 0 := by
  generalize hR : m_Sheets_headOf σ x0 = RES
  refine met_of (own := R_Sheets) (by decide) rfl nwl_ok ?_
  intro p e s m below meth c hC hin hB
  have hx := hC.1
  have hb := hC.2.1
  have hl := lv_entry ([.ref (G 0 3), .int x0]) (n := 2) (Nat.le_of_ble_eq_true rfl)
  rw [lg_entry_eq]
  generalize (lg_sl ([.ref (G 0 3), .int x0]) ++ List.replicate (2 - (lg_sl ([.ref (G 0 3), .int x0])).length) Slot.unset).toArray = ls at hl ⊢
  have hl : lv_has ls 2 [(0, .ref (G 0 3)), (1, .int x0)] := hl
  rw [m_Sheets_headOf] at hR
  refine lv_bipush (v := 60) hx hb d_Sheets_headOf_0 (by decide) ?_
  refine lv_iload_n hx hb d_Sheets_headOf_2 rfl (lv_at hl 1 rfl) ?_
  refine lv_iadd hx hb d_Sheets_headOf_3 ?_
  subst hR
  exact ri hC hB rfl d_Sheets_headOf_4

set_option maxHeartbeats 4000000 in
set_option maxRecDepth 100000 in
theorem c_Sheets_firstOn  (σ : SC) (π : PJ) (x0 : Int32) : CM l y_Sheets_firstOn b_Sheets_firstOn 2 (some .int) { frames := 1, cells := 0, slots := 0, locals := 21 } D (tyL cI cL cQ) N0 [.ref (G 0 3), .int x0] (wsC G cI cL cQ σ π rest) (some (.int (m_Sheets_firstOn σ x0))) (fun w => w = wsC G cI cL cQ σ π rest) 0 0 := by
  generalize hR : m_Sheets_firstOn σ x0 = RES
  refine met_of (own := R_Sheets) (by decide) rfl nwl_ok ?_
  intro p e s m below meth c hC hin hB
  have hx := hC.1
  have hb := hC.2.1
  have hl := lv_entry ([.ref (G 0 3), .int x0]) (n := 2) (Nat.le_of_ble_eq_true rfl)
  rw [lg_entry_eq]
  generalize (lg_sl ([.ref (G 0 3), .int x0]) ++ List.replicate (2 - (lg_sl ([.ref (G 0 3), .int x0])).length) Slot.unset).toArray = ls at hl ⊢
  have hl : lv_has ls 2 [(0, .ref (G 0 3)), (1, .int x0)] := hl
  rw [m_Sheets_firstOn] at hR
  refine lv_aload_n hx hb d_Sheets_firstOn_0 rfl (lv_at hl 0 rfl) ?_
  refine gt hC hB _ lkC_Sheets rfl i_Sheets 4 (by decide) rfl kw_81 rfl d_Sheets_firstOn_1 ?_
  refine lv_aload_n hx hb d_Sheets_firstOn_4 rfl (lv_at hl 0 rfl) ?_
  refine lv_iload_n hx hb d_Sheets_firstOn_5 rfl (lv_at hl 1 rfl) ?_
  refine kV hC hB _ lkC_Sheets rfl (c_Sheets_headOf σ π x0) allw_ok mf_Sheets_headOf kw_227 ks_1 kw_225 ⟨rfl, rfl, Nat.le_of_ble_eq_true rfl, Nat.le_of_ble_eq_true rfl⟩ rfl rfl hl.1 (Nat.le_of_ble_eq_true rfl) d_Sheets_firstOn_6 ⟨Nat.le_of_ble_eq_true rfl, Nat.le_of_ble_eq_true rfl⟩ (roK fun H locs hB => ?_)
  refine kV hC hB _ (lkC_row (by decide)) rfl (c_Row_at 4 (by decide) σ π (m_Sheets_headOf σ x0)) allw_ok mf_Row_at kw_230 kw_231 kw_229 ⟨rfl, rfl, Nat.le_of_ble_eq_true rfl, Nat.le_of_ble_eq_true rfl⟩ rfl rfl hl.1 (Nat.le_of_ble_eq_true rfl) d_Sheets_firstOn_9 ⟨Nat.le_of_ble_eq_true rfl, Nat.le_of_ble_eq_true rfl⟩ (roK fun H locs hB => ?_)
  subst hR
  exact ri hC hB rfl d_Sheets_firstOn_12

set_option maxHeartbeats 4000000 in
set_option maxRecDepth 100000 in
theorem c_Sheets_nextOf  (σ : SC) (π : PJ) (x0 : Int32) : CM l y_Sheets_nextOf b_Sheets_nextOf 2 (some .int) { frames := 1, cells := 0, slots := 0, locals := 21 } D (tyL cI cL cQ) N0 [.ref (G 0 3), .int x0] (wsC G cI cL cQ σ π rest) (some (.int (m_Sheets_nextOf σ x0))) (fun w => w = wsC G cI cL cQ σ π rest) 0 0 := by
  generalize hR : m_Sheets_nextOf σ x0 = RES
  refine met_of (own := R_Sheets) (by decide) rfl nwl_ok ?_
  intro p e s m below meth c hC hin hB
  have hx := hC.1
  have hb := hC.2.1
  have hl := lv_entry ([.ref (G 0 3), .int x0]) (n := 2) (Nat.le_of_ble_eq_true rfl)
  rw [lg_entry_eq]
  generalize (lg_sl ([.ref (G 0 3), .int x0]) ++ List.replicate (2 - (lg_sl ([.ref (G 0 3), .int x0])).length) Slot.unset).toArray = ls at hl ⊢
  have hl : lv_has ls 2 [(0, .ref (G 0 3)), (1, .int x0)] := hl
  rw [m_Sheets_nextOf] at hR
  refine lv_aload_n hx hb d_Sheets_nextOf_0 rfl (lv_at hl 0 rfl) ?_
  refine gt hC hB _ lkC_Sheets rfl i_Sheets 4 (by decide) rfl kw_81 rfl d_Sheets_nextOf_1 ?_
  refine lv_iload_n hx hb d_Sheets_nextOf_4 rfl (lv_at hl 1 rfl) ?_
  refine kV hC hB _ (lkC_row (by decide)) rfl (c_Row_at 4 (by decide) σ π x0) allw_ok mf_Row_at kw_230 kw_231 kw_229 ⟨rfl, rfl, Nat.le_of_ble_eq_true rfl, Nat.le_of_ble_eq_true rfl⟩ rfl rfl hl.1 (Nat.le_of_ble_eq_true rfl) d_Sheets_nextOf_5 ⟨Nat.le_of_ble_eq_true rfl, Nat.le_of_ble_eq_true rfl⟩ (roK fun H locs hB => ?_)
  subst hR
  exact ri hC hB rfl d_Sheets_nextOf_8

set_option maxHeartbeats 4000000 in
set_option maxRecDepth 100000 in
theorem c_Sheets_tells  (σ : SC) (π : PJ) (x0 : Int32) (x1 : Int32) : CM l y_Sheets_tells b_Sheets_tells 3 (some .boolean) { frames := 1, cells := 0, slots := 0, locals := 21 } D (tyL cI cL cQ) N0 [.ref (G 0 3), .int x0, .int x1] (wsC G cI cL cQ σ π rest) (some (.int (bi (m_Sheets_tells σ x0 x1)))) (fun w => w = wsC G cI cL cQ σ π rest) 0 0 := by
  generalize hR : m_Sheets_tells σ x0 x1 = RES
  refine met_of (own := R_Sheets) (by decide) rfl nwl_ok ?_
  intro p e s m below meth c hC hin hB
  have hx := hC.1
  have hb := hC.2.1
  have hl := lv_entry ([.ref (G 0 3), .int x0, .int x1]) (n := 3) (Nat.le_of_ble_eq_true rfl)
  rw [lg_entry_eq]
  generalize (lg_sl ([.ref (G 0 3), .int x0, .int x1]) ++ List.replicate (3 - (lg_sl ([.ref (G 0 3), .int x0, .int x1])).length) Slot.unset).toArray = ls at hl ⊢
  have hl : lv_has ls 3 [(0, .ref (G 0 3)), (1, .int x0), (2, .int x1)] := hl
  rw [m_Sheets_tells] at hR
  refine lv_aload_n hx hb d_Sheets_tells_0 rfl (lv_at hl 0 rfl) ?_
  refine gt hC hB _ lkC_Sheets rfl i_Sheets 1 (by decide) rfl kw_78 rfl d_Sheets_tells_1 ?_
  refine lv_iload_n hx hb d_Sheets_tells_4 rfl (lv_at hl 1 rfl) ?_
  refine kV hC hB _ (lkC_row (by decide)) rfl (c_Row_at 1 (by decide) σ π x0) allw_ok mf_Row_at kw_230 kw_231 kw_229 ⟨rfl, rfl, Nat.le_of_ble_eq_true rfl, Nat.le_of_ble_eq_true rfl⟩ rfl rfl hl.1 (Nat.le_of_ble_eq_true rfl) d_Sheets_tells_5 ⟨Nat.le_of_ble_eq_true rfl, Nat.le_of_ble_eq_true rfl⟩ (roK fun H locs hB => ?_)
  refine lv_iload_n hx hb d_Sheets_tells_8 rfl (lv_at hl 2 rfl) ?_
  refine kSN hC hB (c_ST_holdsName σ π (m_Row_at σ 1 x0) x1) allw_ok mf_ST_holdsName kw_337 nw_4 ⟨rfl, rfl, Nat.le_of_ble_eq_true rfl, Nat.le_of_ble_eq_true rfl⟩ rfl rfl hl.1 (Nat.le_of_ble_eq_true rfl) d_Sheets_tells_9 ⟨Nat.le_of_ble_eq_true rfl, Nat.le_of_ble_eq_true rfl⟩ (roK fun H locs hB => ?_)
  subst hR
  exact rz (b := (m_ST_holdsName (m_Row_at σ 1 x0) x1)) hC hB rfl d_Sheets_tells_12

set_option maxHeartbeats 4000000 in
set_option maxRecDepth 100000 in
theorem c_Sheets_jointOf  (σ : SC) (π : PJ) (x0 : Int32) (x1 : Int32) : CM l y_Sheets_jointOf b_Sheets_jointOf 3 (some .int) { frames := 1, cells := 0, slots := 0, locals := 21 } D (tyL cI cL cQ) N0 [.ref (G 0 3), .int x0, .int x1] (wsC G cI cL cQ σ π rest) (some (.int (m_Sheets_jointOf σ x0 x1))) (fun w => w = wsC G cI cL cQ σ π rest) 0 0 := by
  generalize hR : m_Sheets_jointOf σ x0 x1 = RES
  refine met_of (own := R_Sheets) (by decide) rfl nwl_ok ?_
  intro p e s m below meth c hC hin hB
  have hx := hC.1
  have hb := hC.2.1
  have hl := lv_entry ([.ref (G 0 3), .int x0, .int x1]) (n := 3) (Nat.le_of_ble_eq_true rfl)
  rw [lg_entry_eq]
  generalize (lg_sl ([.ref (G 0 3), .int x0, .int x1]) ++ List.replicate (3 - (lg_sl ([.ref (G 0 3), .int x0, .int x1])).length) Slot.unset).toArray = ls at hl ⊢
  have hl : lv_has ls 3 [(0, .ref (G 0 3)), (1, .int x0), (2, .int x1)] := hl
  rw [m_Sheets_jointOf] at hR
  refine lv_aload_n hx hb d_Sheets_jointOf_0 rfl (lv_at hl 0 rfl) ?_
  refine gt hC hB _ lkC_Sheets rfl i_Sheets 5 (by decide) rfl kw_82 rfl d_Sheets_jointOf_1 ?_
  refine lv_iload_n hx hb d_Sheets_jointOf_4 rfl (lv_at hl 1 rfl) ?_
  refine lv_bipush (v := 32) hx hb d_Sheets_jointOf_5 (by decide) ?_
  refine lv_imul hx hb d_Sheets_jointOf_7 ?_
  refine lv_iload_n hx hb d_Sheets_jointOf_8 rfl (lv_at hl 2 rfl) ?_
  refine lv_iadd hx hb d_Sheets_jointOf_9 ?_
  refine kV hC hB _ (lkC_row (by decide)) rfl (c_Row_at 5 (by decide) σ π ((x0 * 32) + x1)) allw_ok mf_Row_at kw_230 kw_231 kw_229 ⟨rfl, rfl, Nat.le_of_ble_eq_true rfl, Nat.le_of_ble_eq_true rfl⟩ rfl rfl hl.1 (Nat.le_of_ble_eq_true rfl) d_Sheets_jointOf_10 ⟨Nat.le_of_ble_eq_true rfl, Nat.le_of_ble_eq_true rfl⟩ (roK fun H locs hB => ?_)
  subst hR
  exact ri hC hB rfl d_Sheets_jointOf_13
end SC
