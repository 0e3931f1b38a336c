/-! names: classes, fields, methods; made by program -/
def R_ST : String := "SheetTrees"
def R_Change : String := "SheetTrees$Change"
def R_Journal : String := "SheetTrees$Journal"
def R_Row : String := "SheetTrees$Row"
def R_Sheets : String := "SheetTrees$Sheets"
def R_Book : String := "SheetTrees$Book"
def R_Parts : String := "SheetTrees$Parts"
def R_Variants : String := "SheetTrees$Variants"
def R_Mo : String := "SheetTreesModel"
def R_Law : String := "SheetTreesLaw"
def R_Arrays : String := "java/util/Arrays"
def F_ST : u_T := fun k => match k with
  | 0 => ("SheetTrees", "journal", "LSheetTrees$Journal;", true)
  | 1 => ("SheetTrees", "sheets", "LSheetTrees$Sheets;", true)
  | 2 => ("SheetTrees", "book", "LSheetTrees$Book;", true)
  | 3 => ("SheetTrees", "parts", "LSheetTrees$Parts;", true)
  | 4 => ("SheetTrees", "variants", "LSheetTrees$Variants;", true)
  | 5 => ("SheetTrees", "numbering", "LSheetTrees$Row;", true)
  | _ => ("SheetTrees", "lostNames", "I", false)
def t_ST : Nat → FieldType := fun k => match k with
  | 0 => .object "SheetTrees$Journal"
  | 1 => .object "SheetTrees$Sheets"
  | 2 => .object "SheetTrees$Book"
  | 3 => .object "SheetTrees$Parts"
  | 4 => .object "SheetTrees$Variants"
  | 5 => .object "SheetTrees$Row"
  | _ => .int
theorem n_ST : ∀ a, a < 7 → ∀ b, b < 7 → a ≠ b → (F_ST a).2.1 ≠ (F_ST b).2.1 := by decide +kernel
theorem t_ST_ok : ∀ k, k < 7 → parseFieldDescriptor (F_ST k).2.2.1 = some (t_ST k) := by decide +kernel
def F_Change : u_T := fun k => match k with
  | 0 => ("SheetTrees$Change", "row", "LSheetTrees$Row;", true)
  | 1 => ("SheetTrees$Change", "index", "I", true)
  | 2 => ("SheetTrees$Change", "old", "J", true)
  | _ => ("SheetTrees$Change", "before", "LSheetTrees$Change;", true)
def t_Change : Nat → FieldType := fun k => match k with
  | 0 => .object "SheetTrees$Row"
  | 1 => .int
  | 2 => .long
  | _ => .object "SheetTrees$Change"
theorem n_Change : ∀ a, a < 4 → ∀ b, b < 4 → a ≠ b → (F_Change a).2.1 ≠ (F_Change b).2.1 := by decide +kernel
theorem t_Change_ok : ∀ k, k < 4 → parseFieldDescriptor (F_Change k).2.2.1 = some (t_Change k) := by decide +kernel
def F_Journal : u_T := fun k => match k with
  | 0 => ("SheetTrees$Journal", "acts", "[LSheetTrees$Change;", true)
  | 1 => ("SheetTrees$Journal", "count", "I", false)
  | 2 => ("SheetTrees$Journal", "next", "I", false)
  | _ => ("SheetTrees$Journal", "open", "LSheetTrees$Change;", false)
def t_Journal : Nat → FieldType := fun k => match k with
  | 0 => .array (.object "SheetTrees$Change")
  | 1 => .int
  | 2 => .int
  | _ => .object "SheetTrees$Change"
theorem n_Journal : ∀ a, a < 4 → ∀ b, b < 4 → a ≠ b → (F_Journal a).2.1 ≠ (F_Journal b).2.1 := by decide +kernel
theorem t_Journal_ok : ∀ k, k < 4 → parseFieldDescriptor (F_Journal k).2.2.1 = some (t_Journal k) := by decide +kernel
def F_Row : u_T := fun k => match k with
  | 0 => ("SheetTrees$Row", "journal", "LSheetTrees$Journal;", true)
  | _ => ("SheetTrees$Row", "cells", "[J", true)
def t_Row : Nat → FieldType := fun k => match k with
  | 0 => .object "SheetTrees$Journal"
  | _ => .array .long
theorem n_Row : ∀ a, a < 2 → ∀ b, b < 2 → a ≠ b → (F_Row a).2.1 ≠ (F_Row b).2.1 := by decide +kernel
theorem t_Row_ok : ∀ k, k < 2 → parseFieldDescriptor (F_Row k).2.2.1 = some (t_Row k) := by decide +kernel
def F_Sheets : u_T := fun k => match k with
  | 0 => ("SheetTrees$Sheets", "counts", "LSheetTrees$Row;", true)
  | 1 => ("SheetTrees$Sheets", "nameSets", "LSheetTrees$Row;", true)
  | 2 => ("SheetTrees$Sheets", "shown", "LSheetTrees$Row;", true)
  | 3 => ("SheetTrees$Sheets", "parents", "LSheetTrees$Row;", true)
  | 4 => ("SheetTrees$Sheets", "following", "LSheetTrees$Row;", true)
  | _ => ("SheetTrees$Sheets", "joints", "LSheetTrees$Row;", true)
def t_Sheets : Nat → FieldType := fun k => match k with
  | 0 => .object "SheetTrees$Row"
  | 1 => .object "SheetTrees$Row"
  | 2 => .object "SheetTrees$Row"
  | 3 => .object "SheetTrees$Row"
  | 4 => .object "SheetTrees$Row"
  | _ => .object "SheetTrees$Row"
theorem n_Sheets : ∀ a, a < 6 → ∀ b, b < 6 → a ≠ b → (F_Sheets a).2.1 ≠ (F_Sheets b).2.1 := by decide +kernel
theorem t_Sheets_ok : ∀ k, k < 6 → parseFieldDescriptor (F_Sheets k).2.2.1 = some (t_Sheets k) := by decide +kernel
def F_Book : u_T := fun k => match k with
  | 0 => ("SheetTrees$Book", "sheets", "LSheetTrees$Sheets;", true)
  | 1 => ("SheetTrees$Book", "sheetRow", "[I", true)
  | 2 => ("SheetTrees$Book", "placementRow", "[I", true)
  | 3 => ("SheetTrees$Book", "aboveRow", "[I", true)
  | 4 => ("SheetTrees$Book", "depthRow", "[I", true)
  | 5 => ("SheetTrees$Book", "comingRow", "[I", true)
  | 6 => ("SheetTrees$Book", "comings", "[I", true)
  | _ => ("SheetTrees$Book", "count", "I", false)
def t_Book : Nat → FieldType := fun k => match k with
  | 0 => .object "SheetTrees$Sheets"
  | 1 => .array .int
  | 2 => .array .int
  | 3 => .array .int
  | 4 => .array .int
  | 5 => .array .int
  | 6 => .array .int
  | _ => .int
theorem n_Book : ∀ a, a < 8 → ∀ b, b < 8 → a ≠ b → (F_Book a).2.1 ≠ (F_Book b).2.1 := by decide +kernel
theorem t_Book_ok : ∀ k, k < 8 → parseFieldDescriptor (F_Book k).2.2.1 = some (t_Book k) := by decide +kernel
def F_Parts : u_T := fun k => match k with
  | 0 => ("SheetTrees$Parts", "book", "LSheetTrees$Book;", true)
  | 1 => ("SheetTrees$Parts", "size", "LSheetTrees$Row;", true)
  | 2 => ("SheetTrees$Parts", "letters", "LSheetTrees$Row;", true)
  | 3 => ("SheetTrees$Parts", "gateCounts", "LSheetTrees$Row;", true)
  | 4 => ("SheetTrees$Parts", "lying", "LSheetTrees$Row;", true)
  | 5 => ("SheetTrees$Parts", "gateLists", "LSheetTrees$Row;", true)
  | 6 => ("SheetTrees$Parts", "listLengths", "LSheetTrees$Row;", true)
  | _ => ("SheetTrees$Parts", "marks", "[I", true)
def t_Parts : Nat → FieldType := fun k => match k with
  | 0 => .object "SheetTrees$Book"
  | 1 => .object "SheetTrees$Row"
  | 2 => .object "SheetTrees$Row"
  | 3 => .object "SheetTrees$Row"
  | 4 => .object "SheetTrees$Row"
  | 5 => .object "SheetTrees$Row"
  | 6 => .object "SheetTrees$Row"
  | _ => .array .int
theorem n_Parts : ∀ a, a < 8 → ∀ b, b < 8 → a ≠ b → (F_Parts a).2.1 ≠ (F_Parts b).2.1 := by decide +kernel
theorem t_Parts_ok : ∀ k, k < 8 → parseFieldDescriptor (F_Parts k).2.2.1 = some (t_Parts k) := by decide +kernel
def F_Variants : u_T := fun k => match k with
  | 0 => ("SheetTrees$Variants", "book", "LSheetTrees$Book;", true)
  | 1 => ("SheetTrees$Variants", "counts", "LSheetTrees$Row;", true)
  | 2 => ("SheetTrees$Variants", "aboves", "LSheetTrees$Row;", true)
  | 3 => ("SheetTrees$Variants", "subjects", "LSheetTrees$Row;", true)
  | 4 => ("SheetTrees$Variants", "contents", "LSheetTrees$Row;", true)
  | 5 => ("SheetTrees$Variants", "depths", "LSheetTrees$Row;", true)
  | _ => ("SheetTrees$Variants", "paths", "LSheetTrees$Row;", true)
def t_Variants : Nat → FieldType := fun k => match k with
  | 0 => .object "SheetTrees$Book"
  | 1 => .object "SheetTrees$Row"
  | 2 => .object "SheetTrees$Row"
  | 3 => .object "SheetTrees$Row"
  | 4 => .object "SheetTrees$Row"
  | 5 => .object "SheetTrees$Row"
  | _ => .object "SheetTrees$Row"
theorem n_Variants : ∀ a, a < 7 → ∀ b, b < 7 → a ≠ b → (F_Variants a).2.1 ≠ (F_Variants b).2.1 := by decide +kernel
theorem t_Variants_ok : ∀ k, k < 7 → parseFieldDescriptor (F_Variants k).2.2.1 = some (t_Variants k) := by decide +kernel
def F_Mo : u_T := fun k => match k with
  | 0 => ("SheetTreesModel", "thrown", "I", false)
  | 1 => ("SheetTreesModel", "now", "[J", true)
  | 2 => ("SheetTreesModel", "before", "[J", true)
  | 3 => ("SheetTreesModel", "kept", "[J", true)
  | 4 => ("SheetTreesModel", "keptCount", "I", false)
  | 5 => ("SheetTreesModel", "keptFirst", "I", false)
  | 6 => ("SheetTreesModel", "lost", "I", false)
  | 7 => ("SheetTreesModel", "fresh", "Z", false)
  | 8 => ("SheetTreesModel", "pages", "I", false)
  | 9 => ("SheetTreesModel", "pageSheet", "[I", true)
  | 10 => ("SheetTreesModel", "pagePlacement", "[I", true)
  | 11 => ("SheetTreesModel", "pageFrom", "[I", true)
  | 12 => ("SheetTreesModel", "pageDepth", "[I", true)
  | 13 => ("SheetTreesModel", "path", "[I", true)
  | 14 => ("SheetTreesModel", "stackPage", "[I", true)
  | 15 => ("SheetTreesModel", "stackKey", "[J", true)
  | 16 => ("SheetTreesModel", "twin", "[I", true)
  | 17 => ("SheetTreesModel", "firstPage", "I", false)
  | _ => ("SheetTreesModel", "firstPlace", "J", false)
def t_Mo : Nat → FieldType := fun k => match k with
  | 0 => .int
  | 1 => .array .long
  | 2 => .array .long
  | 3 => .array .long
  | 4 => .int
  | 5 => .int
  | 6 => .int
  | 7 => .boolean
  | 8 => .int
  | 9 => .array .int
  | 10 => .array .int
  | 11 => .array .int
  | 12 => .array .int
  | 13 => .array .int
  | 14 => .array .int
  | 15 => .array .long
  | 16 => .array .int
  | 17 => .int
  | _ => .long
theorem n_Mo : ∀ a, a < 19 → ∀ b, b < 19 → a ≠ b → (F_Mo a).2.1 ≠ (F_Mo b).2.1 := by decide +kernel
theorem t_Mo_ok : ∀ k, k < 19 → parseFieldDescriptor (F_Mo k).2.2.1 = some (t_Mo k) := by decide +kernel
abbrev classes : List vw_C := [(R_ST, F_ST, 7), (R_Change, F_Change, 4), (R_Journal, F_Journal, 4), (R_Row, F_Row, 2), (R_Sheets, F_Sheets, 6), (R_Book, F_Book, 8), (R_Parts, F_Parts, 8), (R_Variants, F_Variants, 7), (R_Mo, F_Mo, 19)]
abbrev CI_ST : Nat := 0
abbrev CI_Change : Nat := 1
abbrev CI_Journal : Nat := 2
abbrev CI_Row : Nat := 3
abbrev CI_Sheets : Nat := 4
abbrev CI_Book : Nat := 5
abbrev CI_Parts : Nat := 6
abbrev CI_Variants : Nat := 7
abbrev CI_Mo : Nat := 8
def ALLW : List Cond := lw_tbl.filter goodWord
theorem allw_ok : ∀ w ∈ ALLW, goodWord w = true := fun w h => (List.mem_filter.mp h).2
theorem i_ST : ∀ w ∈ u_ws R_ST F_ST 7, w ∈ ALLW := by
  have h : u_ws R_ST F_ST 7 = [260, 262, 264, 266, 268, 270, 272].filterMap (fun i => tables_1[i]?) := by decide +kernel
  intro w hw
  refine List.mem_filter.mpr ⟨List.mem_append_right _ ?_, List.all_eq_true.mp (show (u_ws R_ST F_ST 7).all goodWord = true by decide +kernel) w hw⟩
  rw [h] at hw
  obtain ⟨i, -, hi⟩ := List.mem_filterMap.mp hw
  exact List.mem_of_getElem? hi
theorem i_Change : ∀ w ∈ u_ws R_Change F_Change 4, w ∈ ALLW := by
  have h : u_ws R_Change F_Change 4 = [311, 313, 315, 317].filterMap (fun i => tables_1[i]?) := by decide +kernel
  intro w hw
  refine List.mem_filter.mpr ⟨List.mem_append_right _ ?_, List.all_eq_true.mp (show (u_ws R_Change F_Change 4).all goodWord = true by decide +kernel) w hw⟩
  rw [h] at hw
  obtain ⟨i, -, hi⟩ := List.mem_filterMap.mp hw
  exact List.mem_of_getElem? hi
theorem i_Journal : ∀ w ∈ u_ws R_Journal F_Journal 4, w ∈ ALLW := by
  have h : u_ws R_Journal F_Journal 4 = [37, 39, 41, 43].filterMap (fun i => tables_1[i]?) := by decide +kernel
  intro w hw
  refine List.mem_filter.mpr ⟨List.mem_append_right _ ?_, List.all_eq_true.mp (show (u_ws R_Journal F_Journal 4).all goodWord = true by decide +kernel) w hw⟩
  rw [h] at hw
  obtain ⟨i, -, hi⟩ := List.mem_filterMap.mp hw
  exact List.mem_of_getElem? hi
theorem i_Row : ∀ w ∈ u_ws R_Row F_Row 2, w ∈ ALLW := by
  have h : u_ws R_Row F_Row 2 = [66, 68].filterMap (fun i => tables_1[i]?) := by decide +kernel
  intro w hw
  refine List.mem_filter.mpr ⟨List.mem_append_right _ ?_, List.all_eq_true.mp (show (u_ws R_Row F_Row 2).all goodWord = true by decide +kernel) w hw⟩
  rw [h] at hw
  obtain ⟨i, -, hi⟩ := List.mem_filterMap.mp hw
  exact List.mem_of_getElem? hi
theorem i_Sheets : ∀ w ∈ u_ws R_Sheets F_Sheets 6, w ∈ ALLW := by
  have h : u_ws R_Sheets F_Sheets 6 = [83, 85, 87, 89, 91, 93].filterMap (fun i => tables_1[i]?) := by decide +kernel
  intro w hw
  refine List.mem_filter.mpr ⟨List.mem_append_right _ ?_, List.all_eq_true.mp (show (u_ws R_Sheets F_Sheets 6).all goodWord = true by decide +kernel) w hw⟩
  rw [h] at hw
  obtain ⟨i, -, hi⟩ := List.mem_filterMap.mp hw
  exact List.mem_of_getElem? hi
theorem i_Book : ∀ w ∈ u_ws R_Book F_Book 8, w ∈ ALLW := by
  have h : u_ws R_Book F_Book 8 = [110, 112, 114, 116, 118, 120, 122, 124].filterMap (fun i => tables_1[i]?) := by decide +kernel
  intro w hw
  refine List.mem_filter.mpr ⟨List.mem_append_right _ ?_, List.all_eq_true.mp (show (u_ws R_Book F_Book 8).all goodWord = true by decide +kernel) w hw⟩
  rw [h] at hw
  obtain ⟨i, -, hi⟩ := List.mem_filterMap.mp hw
  exact List.mem_of_getElem? hi
theorem i_Parts : ∀ w ∈ u_ws R_Parts F_Parts 8, w ∈ ALLW := by
  have h : u_ws R_Parts F_Parts 8 = [145, 147, 149, 151, 153, 155, 157, 159].filterMap (fun i => tables_1[i]?) := by decide +kernel
  intro w hw
  refine List.mem_filter.mpr ⟨List.mem_append_right _ ?_, List.all_eq_true.mp (show (u_ws R_Parts F_Parts 8).all goodWord = true by decide +kernel) w hw⟩
  rw [h] at hw
  obtain ⟨i, -, hi⟩ := List.mem_filterMap.mp hw
  exact List.mem_of_getElem? hi
theorem i_Variants : ∀ w ∈ u_ws R_Variants F_Variants 7, w ∈ ALLW := by
  have h : u_ws R_Variants F_Variants 7 = [178, 180, 182, 184, 186, 188, 190].filterMap (fun i => tables_1[i]?) := by decide +kernel
  intro w hw
  refine List.mem_filter.mpr ⟨List.mem_append_right _ ?_, List.all_eq_true.mp (show (u_ws R_Variants F_Variants 7).all goodWord = true by decide +kernel) w hw⟩
  rw [h] at hw
  obtain ⟨i, -, hi⟩ := List.mem_filterMap.mp hw
  exact List.mem_of_getElem? hi
theorem i_Mo : ∀ w ∈ u_ws R_Mo F_Mo 19, w ∈ ALLW := by
  have h : u_ws R_Mo F_Mo 19 = [899, 901, 903, 905, 907, 909, 911, 913, 915, 917, 919, 921, 923, 925, 927, 929, 931, 933, 935].filterMap (fun i => tables_1[i]?) := by decide +kernel
  intro w hw
  refine List.mem_filter.mpr ⟨List.mem_append_right _ ?_, List.all_eq_true.mp (show (u_ws R_Mo F_Mo 19).all goodWord = true by decide +kernel) w hw⟩
  rw [h] at hw
  obtain ⟨i, -, hi⟩ := List.mem_filterMap.mp hw
  exact List.mem_of_getElem? hi
def NWL : List Cond := [(Jvm.Cond.methodLinkNest "SheetTrees" (11 : Nat) ({ cls := "SheetTrees$Journal", name := "<init>", desc := "()V" } : Jvm.MethodName) "SheetTrees"), (Jvm.Cond.methodLinkNest "SheetTrees$Book" (72 : Nat) ({ cls := "SheetTrees", name := "write", desc := "([III)V" } : Jvm.MethodName) "SheetTrees"), (Jvm.Cond.methodLinkNest "SheetTrees$Book" (79 : Nat) ({ cls := "SheetTrees", name := "read", desc := "([II)I" } : Jvm.MethodName) "SheetTrees"), (Jvm.Cond.fieldLinkNest "SheetTrees$Journal" (44 : Nat) "SheetTrees$Change" "before" "LSheetTrees$Change;" "SheetTrees"), (Jvm.Cond.methodLinkNest "SheetTrees$Sheets" (106 : Nat) ({ cls := "SheetTrees", name := "holdsName", desc := "(II)Z" } : Jvm.MethodName) "SheetTrees"), (Jvm.Cond.methodLinkNest "SheetTrees$Parts" (69 : Nat) ({ cls := "SheetTrees", name := "read", desc := "([II)I" } : Jvm.MethodName) "SheetTrees"), (Jvm.Cond.methodLinkNest "SheetTrees$Parts" (73 : Nat) ({ cls := "SheetTrees", name := "write", desc := "([III)V" } : Jvm.MethodName) "SheetTrees")]
theorem nw_0 : (Jvm.Cond.methodLinkNest "SheetTrees" (11 : Nat) ({ cls := "SheetTrees$Journal", name := "<init>", desc := "()V" } : Jvm.MethodName) "SheetTrees") ∈ NWL := List.mem_of_getElem? (i := 0) rfl
theorem nw_1 : (Jvm.Cond.methodLinkNest "SheetTrees$Book" (72 : Nat) ({ cls := "SheetTrees", name := "write", desc := "([III)V" } : Jvm.MethodName) "SheetTrees") ∈ NWL := List.mem_of_getElem? (i := 1) rfl
theorem nw_2 : (Jvm.Cond.methodLinkNest "SheetTrees$Book" (79 : Nat) ({ cls := "SheetTrees", name := "read", desc := "([II)I" } : Jvm.MethodName) "SheetTrees") ∈ NWL := List.mem_of_getElem? (i := 2) rfl
theorem nw_3 : (Jvm.Cond.fieldLinkNest "SheetTrees$Journal" (44 : Nat) "SheetTrees$Change" "before" "LSheetTrees$Change;" "SheetTrees") ∈ NWL := List.mem_of_getElem? (i := 3) rfl
theorem nw_4 : (Jvm.Cond.methodLinkNest "SheetTrees$Sheets" (106 : Nat) ({ cls := "SheetTrees", name := "holdsName", desc := "(II)Z" } : Jvm.MethodName) "SheetTrees") ∈ NWL := List.mem_of_getElem? (i := 4) rfl
theorem nw_5 : (Jvm.Cond.methodLinkNest "SheetTrees$Parts" (69 : Nat) ({ cls := "SheetTrees", name := "read", desc := "([II)I" } : Jvm.MethodName) "SheetTrees") ∈ NWL := List.mem_of_getElem? (i := 5) rfl
theorem nw_6 : (Jvm.Cond.methodLinkNest "SheetTrees$Parts" (73 : Nat) ({ cls := "SheetTrees", name := "write", desc := "([III)V" } : Jvm.MethodName) "SheetTrees") ∈ NWL := List.mem_of_getElem? (i := 6) rfl
