/-! names: classes, fields, methods; made by program -/
def R_ST : String := "SheetTrees"
def R_Change : String := "SheetTrees$Change"
def R_Journal : String := "SheetTrees$Journal"
def R_Row : String := "SheetTrees$Row"
def R_Sheets : String := "SheetTrees$Sheets"
def R_Book : String := "SheetTrees$Book"
def R_Parts : String := "SheetTrees$Parts"
def R_Variants : String := "SheetTrees$Variants"
def R_Mo : String := "SheetTreesModel"
def R_Law : String := "SheetTreesLaw"
def R_Arrays : String := "java/util/Arrays"
def F_ST : u_T := fun k => match k with
  | 0 => ("SheetTrees", "journal", "LSheetTrees$Journal;", true)
  | 1 => ("SheetTrees", "sheets", "LSheetTrees$Sheets;", true)
  | 2 => ("SheetTrees", "book", "LSheetTrees$Book;", true)
  | 3 => ("SheetTrees", "parts", "LSheetTrees$Parts;", true)
  | 4 => ("SheetTrees", "variants", "LSheetTrees$Variants;", true)
  | 5 => ("SheetTrees", "numbering", "LSheetTrees$Row;", true)
  | _ => ("SheetTrees", "lostNames", "I", false)
def t_ST : Nat → FieldType := fun k => match k with
  | 0 => .object "SheetTrees$Journal"
  | 1 => .object "SheetTrees$Sheets"
  | 2 => .object "SheetTrees$Book"
  | 3 => .object "SheetTrees$Parts"
  | 4 => .object "SheetTrees$Variants"
  | 5 => .object "SheetTrees$Row"
  | _ => .int
theorem n_ST : ∀ a, a < 7 → ∀ b, b < 7 → a ≠ b → (F_ST a).2.1 ≠ (F_ST b).2.1 := by decide +kernel
theorem t_ST_ok : ∀ k, k < 7 → parseFieldDescriptor (F_ST k).2.2.1 = some (t_ST k) := by decide +kernel
def F_Change : u_T := fun k => match k with
  | 0 => ("SheetTrees$Change", "row", "LSheetTrees$Row;", false)
  | 1 => ("SheetTrees$Change", "index", "I", false)
  | 2 => ("SheetTrees$Change", "old", "J", false)
  | _ => ("SheetTrees$Change", "before", "LSheetTrees$Change;", false)
def t_Change : Nat → FieldType := fun k => match k with
  | 0 => .object "SheetTrees$Row"
  | 1 => .int
  | 2 => .long
  | _ => .object "SheetTrees$Change"
theorem n_Change : ∀ a, a < 4 → ∀ b, b < 4 → a ≠ b → (F_Change a).2.1 ≠ (F_Change b).2.1 := by decide +kernel
theorem t_Change_ok : ∀ k, k < 4 → parseFieldDescriptor (F_Change k).2.2.1 = some (t_Change k) := by decide +kernel
def F_Journal : u_T := fun k => match k with
  | 0 => ("SheetTrees$Journal", "acts", "[LSheetTrees$Change;", true)
  | 1 => ("SheetTrees$Journal", "count", "I", false)
  | 2 => ("SheetTrees$Journal", "next", "I", false)
  | 3 => ("SheetTrees$Journal", "open", "LSheetTrees$Change;", false)
  | _ => ("SheetTrees$Journal", "spare", "LSheetTrees$Change;", false)
def t_Journal : Nat → FieldType := fun k => match k with
  | 0 => .array (.object "SheetTrees$Change")
  | 1 => .int
  | 2 => .int
  | 3 => .object "SheetTrees$Change"
  | _ => .object "SheetTrees$Change"
theorem n_Journal : ∀ a, a < 5 → ∀ b, b < 5 → a ≠ b → (F_Journal a).2.1 ≠ (F_Journal b).2.1 := by decide +kernel
theorem t_Journal_ok : ∀ k, k < 5 → parseFieldDescriptor (F_Journal k).2.2.1 = some (t_Journal k) := by decide +kernel
def F_Row : u_T := fun k => match k with
  | 0 => ("SheetTrees$Row", "journal", "LSheetTrees$Journal;", true)
  | _ => ("SheetTrees$Row", "cells", "[J", true)
def t_Row : Nat → FieldType := fun k => match k with
  | 0 => .object "SheetTrees$Journal"
  | _ => .array .long
theorem n_Row : ∀ a, a < 2 → ∀ b, b < 2 → a ≠ b → (F_Row a).2.1 ≠ (F_Row b).2.1 := by decide +kernel
theorem t_Row_ok : ∀ k, k < 2 → parseFieldDescriptor (F_Row k).2.2.1 = some (t_Row k) := by decide +kernel
def F_Sheets : u_T := fun k => match k with
  | 0 => ("SheetTrees$Sheets", "counts", "LSheetTrees$Row;", true)
  | 1 => ("SheetTrees$Sheets", "nameSets", "LSheetTrees$Row;", true)
  | 2 => ("SheetTrees$Sheets", "shown", "LSheetTrees$Row;", true)
  | 3 => ("SheetTrees$Sheets", "parents", "LSheetTrees$Row;", true)
  | 4 => ("SheetTrees$Sheets", "following", "LSheetTrees$Row;", true)
  | _ => ("SheetTrees$Sheets", "joints", "LSheetTrees$Row;", true)
def t_Sheets : Nat → FieldType := fun k => match k with
  | 0 => .object "SheetTrees$Row"
  | 1 => .object "SheetTrees$Row"
  | 2 => .object "SheetTrees$Row"
  | 3 => .object "SheetTrees$Row"
  | 4 => .object "SheetTrees$Row"
  | _ => .object "SheetTrees$Row"
theorem n_Sheets : ∀ a, a < 6 → ∀ b, b < 6 → a ≠ b → (F_Sheets a).2.1 ≠ (F_Sheets b).2.1 := by decide +kernel
theorem t_Sheets_ok : ∀ k, k < 6 → parseFieldDescriptor (F_Sheets k).2.2.1 = some (t_Sheets k) := by decide +kernel
def F_Book : u_T := fun k => match k with
  | 0 => ("SheetTrees$Book", "sheets", "LSheetTrees$Sheets;", true)
  | 1 => ("SheetTrees$Book", "sheetRow", "[I", true)
  | 2 => ("SheetTrees$Book", "placementRow", "[I", true)
  | 3 => ("SheetTrees$Book", "aboveRow", "[I", true)
  | 4 => ("SheetTrees$Book", "depthRow", "[I", true)
  | 5 => ("SheetTrees$Book", "comingRow", "[I", true)
  | 6 => ("SheetTrees$Book", "comings", "[I", true)
  | _ => ("SheetTrees$Book", "count", "I", false)
def t_Book : Nat → FieldType := fun k => match k with
  | 0 => .object "SheetTrees$Sheets"
  | 1 => .array .int
  | 2 => .array .int
  | 3 => .array .int
  | 4 => .array .int
  | 5 => .array .int
  | 6 => .array .int
  | _ => .int
theorem n_Book : ∀ a, a < 8 → ∀ b, b < 8 → a ≠ b → (F_Book a).2.1 ≠ (F_Book b).2.1 := by decide +kernel
theorem t_Book_ok : ∀ k, k < 8 → parseFieldDescriptor (F_Book k).2.2.1 = some (t_Book k) := by decide +kernel
def F_Parts : u_T := fun k => match k with
  | 0 => ("SheetTrees$Parts", "book", "LSheetTrees$Book;", true)
  | 1 => ("SheetTrees$Parts", "size", "LSheetTrees$Row;", true)
  | 2 => ("SheetTrees$Parts", "letters", "LSheetTrees$Row;", true)
  | 3 => ("SheetTrees$Parts", "gateCounts", "LSheetTrees$Row;", true)
  | 4 => ("SheetTrees$Parts", "lying", "LSheetTrees$Row;", true)
  | 5 => ("SheetTrees$Parts", "gateLists", "LSheetTrees$Row;", true)
  | 6 => ("SheetTrees$Parts", "listLengths", "LSheetTrees$Row;", true)
  | _ => ("SheetTrees$Parts", "marks", "[I", true)
def t_Parts : Nat → FieldType := fun k => match k with
  | 0 => .object "SheetTrees$Book"
  | 1 => .object "SheetTrees$Row"
  | 2 => .object "SheetTrees$Row"
  | 3 => .object "SheetTrees$Row"
  | 4 => .object "SheetTrees$Row"
  | 5 => .object "SheetTrees$Row"
  | 6 => .object "SheetTrees$Row"
  | _ => .array .int
theorem n_Parts : ∀ a, a < 8 → ∀ b, b < 8 → a ≠ b → (F_Parts a).2.1 ≠ (F_Parts b).2.1 := by decide +kernel
theorem t_Parts_ok : ∀ k, k < 8 → parseFieldDescriptor (F_Parts k).2.2.1 = some (t_Parts k) := by decide +kernel
def F_Variants : u_T := fun k => match k with
  | 0 => ("SheetTrees$Variants", "book", "LSheetTrees$Book;", true)
  | 1 => ("SheetTrees$Variants", "counts", "LSheetTrees$Row;", true)
  | 2 => ("SheetTrees$Variants", "aboves", "LSheetTrees$Row;", true)
  | 3 => ("SheetTrees$Variants", "subjects", "LSheetTrees$Row;", true)
  | 4 => ("SheetTrees$Variants", "contents", "LSheetTrees$Row;", true)
  | 5 => ("SheetTrees$Variants", "depths", "LSheetTrees$Row;", true)
  | _ => ("SheetTrees$Variants", "paths", "LSheetTrees$Row;", true)
def t_Variants : Nat → FieldType := fun k => match k with
  | 0 => .object "SheetTrees$Book"
  | 1 => .object "SheetTrees$Row"
  | 2 => .object "SheetTrees$Row"
  | 3 => .object "SheetTrees$Row"
  | 4 => .object "SheetTrees$Row"
  | 5 => .object "SheetTrees$Row"
  | _ => .object "SheetTrees$Row"
theorem n_Variants : ∀ a, a < 7 → ∀ b, b < 7 → a ≠ b → (F_Variants a).2.1 ≠ (F_Variants b).2.1 := by decide +kernel
theorem t_Variants_ok : ∀ k, k < 7 → parseFieldDescriptor (F_Variants k).2.2.1 = some (t_Variants k) := by decide +kernel
def F_Mo : u_T := fun k => match k with
  | 0 => ("SheetTreesModel", "thrown", "I", false)
  | 1 => ("SheetTreesModel", "now", "[J", true)
  | 2 => ("SheetTreesModel", "before", "[J", true)
  | 3 => ("SheetTreesModel", "kept", "[J", true)
  | 4 => ("SheetTreesModel", "keptCount", "I", false)
  | 5 => ("SheetTreesModel", "keptFirst", "I", false)
  | 6 => ("SheetTreesModel", "lost", "I", false)
  | 7 => ("SheetTreesModel", "fresh", "Z", false)
  | 8 => ("SheetTreesModel", "pages", "I", false)
  | 9 => ("SheetTreesModel", "pageSheet", "[I", true)
  | 10 => ("SheetTreesModel", "pagePlacement", "[I", true)
  | 11 => ("SheetTreesModel", "pageFrom", "[I", true)
  | 12 => ("SheetTreesModel", "pageDepth", "[I", true)
  | 13 => ("SheetTreesModel", "path", "[I", true)
  | 14 => ("SheetTreesModel", "stackPage", "[I", true)
  | 15 => ("SheetTreesModel", "stackKey", "[J", true)
  | 16 => ("SheetTreesModel", "twin", "[I", true)
  | 17 => ("SheetTreesModel", "firstPage", "I", false)
  | _ => ("SheetTreesModel", "firstPlace", "J", false)
def t_Mo : Nat → FieldType := fun k => match k with
  | 0 => .int
  | 1 => .array .long
  | 2 => .array .long
  | 3 => .array .long
  | 4 => .int
  | 5 => .int
  | 6 => .int
  | 7 => .boolean
  | 8 => .int
  | 9 => .array .int
  | 10 => .array .int
  | 11 => .array .int
  | 12 => .array .int
  | 13 => .array .int
  | 14 => .array .int
  | 15 => .array .long
  | 16 => .array .int
  | 17 => .int
  | _ => .long
theorem n_Mo : ∀ a, a < 19 → ∀ b, b < 19 → a ≠ b → (F_Mo a).2.1 ≠ (F_Mo b).2.1 := by decide +kernel
theorem t_Mo_ok : ∀ k, k < 19 → parseFieldDescriptor (F_Mo k).2.2.1 = some (t_Mo k) := by decide +kernel
abbrev classes : List vw_C := [(R_ST, F_ST, 7), (R_Change, F_Change, 4), (R_Journal, F_Journal, 5), (R_Row, F_Row, 2), (R_Sheets, F_Sheets, 6), (R_Book, F_Book, 8), (R_Parts, F_Parts, 8), (R_Variants, F_Variants, 7), (R_Mo, F_Mo, 19)]
abbrev CI_ST : Nat := 0
abbrev CI_Change : Nat := 1
abbrev CI_Journal : Nat := 2
abbrev CI_Row : Nat := 3
abbrev CI_Sheets : Nat := 4
abbrev CI_Book : Nat := 5
abbrev CI_Parts : Nat := 6
abbrev CI_Variants : Nat := 7
abbrev CI_Mo : Nat := 8
def ALLW : List Cond := lw_tbl.filter goodWord
theorem allw_ok : ∀ w ∈ ALLW, goodWord w = true := fun w h => (List.mem_filter.mp h).2
theorem i_ST : ∀ w ∈ u_ws R_ST F_ST 7, w ∈ ALLW := by
  have h : u_ws R_ST F_ST 7 = [263, 265, 267, 269, 271, 273, 275].filterMap (fun i => tables_1[i]?) := by decide +kernel
  intro w hw
  refine List.mem_filter.mpr ⟨List.mem_append_right _ ?_, List.all_eq_true.mp (show (u_ws R_ST F_ST 7).all goodWord = true by decide +kernel) w hw⟩
  rw [h] at hw
  obtain ⟨i, -, hi⟩ := List.mem_filterMap.mp hw
  exact List.mem_of_getElem? hi
theorem i_Change : ∀ w ∈ u_ws R_Change F_Change 4, w ∈ ALLW := by
  have h : u_ws R_Change F_Change 4 = [314, 316, 318, 320].filterMap (fun i => tables_1[i]?) := by decide +kernel
  intro w hw
  refine List.mem_filter.mpr ⟨List.mem_append_right _ ?_, List.all_eq_true.mp (show (u_ws R_Change F_Change 4).all goodWord = true by decide +kernel) w hw⟩
  rw [h] at hw
  obtain ⟨i, -, hi⟩ := List.mem_filterMap.mp hw
  exact List.mem_of_getElem? hi
theorem i_Journal : ∀ w ∈ u_ws R_Journal F_Journal 5, w ∈ ALLW := by
  have h : u_ws R_Journal F_Journal 5 = [38, 40, 42, 44, 46].filterMap (fun i => tables_1[i]?) := by decide +kernel
  intro w hw
  refine List.mem_filter.mpr ⟨List.mem_append_right _ ?_, List.all_eq_true.mp (show (u_ws R_Journal F_Journal 5).all goodWord = true by decide +kernel) w hw⟩
  rw [h] at hw
  obtain ⟨i, -, hi⟩ := List.mem_filterMap.mp hw
  exact List.mem_of_getElem? hi
theorem i_Row : ∀ w ∈ u_ws R_Row F_Row 2, w ∈ ALLW := by
  have h : u_ws R_Row F_Row 2 = [69, 71].filterMap (fun i => tables_1[i]?) := by decide +kernel
  intro w hw
  refine List.mem_filter.mpr ⟨List.mem_append_right _ ?_, List.all_eq_true.mp (show (u_ws R_Row F_Row 2).all goodWord = true by decide +kernel) w hw⟩
  rw [h] at hw
  obtain ⟨i, -, hi⟩ := List.mem_filterMap.mp hw
  exact List.mem_of_getElem? hi
theorem i_Sheets : ∀ w ∈ u_ws R_Sheets F_Sheets 6, w ∈ ALLW := by
  have h : u_ws R_Sheets F_Sheets 6 = [86, 88, 90, 92, 94, 96].filterMap (fun i => tables_1[i]?) := by decide +kernel
  intro w hw
  refine List.mem_filter.mpr ⟨List.mem_append_right _ ?_, List.all_eq_true.mp (show (u_ws R_Sheets F_Sheets 6).all goodWord = true by decide +kernel) w hw⟩
  rw [h] at hw
  obtain ⟨i, -, hi⟩ := List.mem_filterMap.mp hw
  exact List.mem_of_getElem? hi
theorem i_Book : ∀ w ∈ u_ws R_Book F_Book 8, w ∈ ALLW := by
  have h : u_ws R_Book F_Book 8 = [113, 115, 117, 119, 121, 123, 125, 127].filterMap (fun i => tables_1[i]?) := by decide +kernel
  intro w hw
  refine List.mem_filter.mpr ⟨List.mem_append_right _ ?_, List.all_eq_true.mp (show (u_ws R_Book F_Book 8).all goodWord = true by decide +kernel) w hw⟩
  rw [h] at hw
  obtain ⟨i, -, hi⟩ := List.mem_filterMap.mp hw
  exact List.mem_of_getElem? hi
theorem i_Parts : ∀ w ∈ u_ws R_Parts F_Parts 8, w ∈ ALLW := by
  have h : u_ws R_Parts F_Parts 8 = [148, 150, 152, 154, 156, 158, 160, 162].filterMap (fun i => tables_1[i]?) := by decide +kernel
  intro w hw
  refine List.mem_filter.mpr ⟨List.mem_append_right _ ?_, List.all_eq_true.mp (show (u_ws R_Parts F_Parts 8).all goodWord = true by decide +kernel) w hw⟩
  rw [h] at hw
  obtain ⟨i, -, hi⟩ := List.mem_filterMap.mp hw
  exact List.mem_of_getElem? hi
theorem i_Variants : ∀ w ∈ u_ws R_Variants F_Variants 7, w ∈ ALLW := by
  have h : u_ws R_Variants F_Variants 7 = [181, 183, 185, 187, 189, 191, 193].filterMap (fun i => tables_1[i]?) := by decide +kernel
  intro w hw
  refine List.mem_filter.mpr ⟨List.mem_append_right _ ?_, List.all_eq_true.mp (show (u_ws R_Variants F_Variants 7).all goodWord = true by decide +kernel) w hw⟩
  rw [h] at hw
  obtain ⟨i, -, hi⟩ := List.mem_filterMap.mp hw
  exact List.mem_of_getElem? hi
theorem i_Mo : ∀ w ∈ u_ws R_Mo F_Mo 19, w ∈ ALLW := by
  have h : u_ws R_Mo F_Mo 19 = [910, 912, 914, 916, 918, 920, 922, 924, 926, 928, 930, 932, 934, 936, 938, 940, 942, 944, 946].filterMap (fun i => tables_1[i]?) := by decide +kernel
  intro w hw
  refine List.mem_filter.mpr ⟨List.mem_append_right _ ?_, List.all_eq_true.mp (show (u_ws R_Mo F_Mo 19).all goodWord = true by decide +kernel) w hw⟩
  rw [h] at hw
  obtain ⟨i, -, hi⟩ := List.mem_filterMap.mp hw
  exact List.mem_of_getElem? hi
def NWL : List Cond := [(Jvm.Cond.methodLinkNest "SheetTrees" (11 : Nat) ({ cls := "SheetTrees$Journal", name := "<init>", desc := "()V" } : Jvm.MethodName) "SheetTrees"), (Jvm.Cond.methodLinkNest "SheetTrees$Book" (72 : Nat) ({ cls := "SheetTrees", name := "write", desc := "([III)V" } : Jvm.MethodName) "SheetTrees"), (Jvm.Cond.methodLinkNest "SheetTrees$Book" (79 : Nat) ({ cls := "SheetTrees", name := "read", desc := "([II)I" } : Jvm.MethodName) "SheetTrees"), (Jvm.Cond.methodLinkNest "SheetTrees$Journal" (21 : Nat) ({ cls := "SheetTrees$Change", name := "<init>", desc := "()V" } : Jvm.MethodName) "SheetTrees"), (Jvm.Cond.fieldLinkNest "SheetTrees$Journal" (22 : Nat) "SheetTrees$Change" "before" "LSheetTrees$Change;" "SheetTrees"), (Jvm.Cond.methodLinkNest "SheetTrees$Sheets" (106 : Nat) ({ cls := "SheetTrees", name := "holdsName", desc := "(II)Z" } : Jvm.MethodName) "SheetTrees"), (Jvm.Cond.methodLinkNest "SheetTrees$Parts" (69 : Nat) ({ cls := "SheetTrees", name := "read", desc := "([II)I" } : Jvm.MethodName) "SheetTrees"), (Jvm.Cond.methodLinkNest "SheetTrees$Parts" (73 : Nat) ({ cls := "SheetTrees", name := "write", desc := "([III)V" } : Jvm.MethodName) "SheetTrees")]
theorem nw_0 : (Jvm.Cond.methodLinkNest "SheetTrees" (11 : Nat) ({ cls := "SheetTrees$Journal", name := "<init>", desc := "()V" } : Jvm.MethodName) "SheetTrees") ∈ NWL := List.mem_of_getElem? (i := 0) rfl
theorem nw_1 : (Jvm.Cond.methodLinkNest "SheetTrees$Book" (72 : Nat) ({ cls := "SheetTrees", name := "write", desc := "([III)V" } : Jvm.MethodName) "SheetTrees") ∈ NWL := List.mem_of_getElem? (i := 1) rfl
theorem nw_2 : (Jvm.Cond.methodLinkNest "SheetTrees$Book" (79 : Nat) ({ cls := "SheetTrees", name := "read", desc := "([II)I" } : Jvm.MethodName) "SheetTrees") ∈ NWL := List.mem_of_getElem? (i := 2) rfl
theorem nw_3 : (Jvm.Cond.methodLinkNest "SheetTrees$Journal" (21 : Nat) ({ cls := "SheetTrees$Change", name := "<init>", desc := "()V" } : Jvm.MethodName) "SheetTrees") ∈ NWL := List.mem_of_getElem? (i := 3) rfl
theorem nw_4 : (Jvm.Cond.fieldLinkNest "SheetTrees$Journal" (22 : Nat) "SheetTrees$Change" "before" "LSheetTrees$Change;" "SheetTrees") ∈ NWL := List.mem_of_getElem? (i := 4) rfl
theorem nw_5 : (Jvm.Cond.methodLinkNest "SheetTrees$Sheets" (106 : Nat) ({ cls := "SheetTrees", name := "holdsName", desc := "(II)Z" } : Jvm.MethodName) "SheetTrees") ∈ NWL := List.mem_of_getElem? (i := 5) rfl
theorem nw_6 : (Jvm.Cond.methodLinkNest "SheetTrees$Parts" (69 : Nat) ({ cls := "SheetTrees", name := "read", desc := "([II)I" } : Jvm.MethodName) "SheetTrees") ∈ NWL := List.mem_of_getElem? (i := 6) rfl
theorem nw_7 : (Jvm.Cond.methodLinkNest "SheetTrees$Parts" (73 : Nat) ({ cls := "SheetTrees", name := "write", desc := "([III)V" } : Jvm.MethodName) "SheetTrees") ∈ NWL := List.mem_of_getElem? (i := 7) rfl
abbrev b_ST_init : ByteArray := prog_1_method_1_code
def y_ST_init : MethodName := ⟨"SheetTrees", "<init>", "()V"⟩
abbrev b_ST_sheet : ByteArray := prog_1_method_2_code
def y_ST_sheet : MethodName := ⟨"SheetTrees", "sheet", "()I"⟩
abbrev b_ST_place : ByteArray := prog_1_method_3_code
def y_ST_place : MethodName := ⟨"SheetTrees", "place", "(II)I"⟩
abbrev b_ST_remove : ByteArray := prog_1_method_4_code
def y_ST_remove : MethodName := ⟨"SheetTrees", "remove", "(I)Z"⟩
abbrev b_ST_move : ByteArray := prog_1_method_5_code
def y_ST_move : MethodName := ⟨"SheetTrees", "move", "(II)Z"⟩
abbrev b_ST_told : ByteArray := prog_1_method_6_code
def y_ST_told : MethodName := ⟨"SheetTrees", "told", "(I)I"⟩
abbrev b_ST_port : ByteArray := prog_1_method_7_code
def y_ST_port : MethodName := ⟨"SheetTrees", "port", "(II)Z"⟩
abbrev b_ST_join : ByteArray := prog_1_method_8_code
def y_ST_join : MethodName := ⟨"SheetTrees", "join", "(III)Z"⟩
abbrev b_ST_joined : ByteArray := prog_1_method_9_code
def y_ST_joined : MethodName := ⟨"SheetTrees", "joined", "(II)I"⟩
abbrev b_ST_part : ByteArray := prog_1_method_10_code
def y_ST_part : MethodName := ⟨"SheetTrees", "part", "(II)I"⟩
abbrev b_ST_gate : ByteArray := prog_1_method_11_code
def y_ST_gate : MethodName := ⟨"SheetTrees", "gate", "(III)Z"⟩
abbrev b_ST_copy : ByteArray := prog_1_method_12_code
def y_ST_copy : MethodName := ⟨"SheetTrees", "copy", "(I)I"⟩
abbrev b_ST_rule : ByteArray := prog_1_method_13_code
def y_ST_rule : MethodName := ⟨"SheetTrees", "rule", "(I)Z"⟩
abbrev b_ST_variant : ByteArray := prog_1_method_14_code
def y_ST_variant : MethodName := ⟨"SheetTrees", "variant", "(I)I"⟩
abbrev b_ST_value : ByteArray := prog_1_method_15_code
def y_ST_value : MethodName := ⟨"SheetTrees", "value", "(IIIJ)Z"⟩
abbrev b_ST_fit : ByteArray := prog_1_method_16_code
def y_ST_fit : MethodName := ⟨"SheetTrees", "fit", "(IIIZ)Z"⟩
abbrev b_ST_valueOf : ByteArray := prog_1_method_17_code
def y_ST_valueOf : MethodName := ⟨"SheetTrees", "valueOf", "(III)J"⟩
abbrev b_ST_fitted : ByteArray := prog_1_method_18_code
def y_ST_fitted : MethodName := ⟨"SheetTrees", "fitted", "(III)Z"⟩
abbrev b_ST_undo : ByteArray := prog_1_method_19_code
def y_ST_undo : MethodName := ⟨"SheetTrees", "undo", "()Z"⟩
abbrev b_ST_pages : ByteArray := prog_1_method_20_code
def y_ST_pages : MethodName := ⟨"SheetTrees", "pages", "()I"⟩
abbrev b_ST_page : ByteArray := prog_1_method_21_code
def y_ST_page : MethodName := ⟨"SheetTrees", "page", "(II)I"⟩
abbrev b_ST_units : ByteArray := prog_1_method_22_code
def y_ST_units : MethodName := ⟨"SheetTrees", "units", "(I)I"⟩
abbrev b_ST_where : ByteArray := prog_1_method_23_code
def y_ST_where : MethodName := ⟨"SheetTrees", "where", "(III)I"⟩
abbrev b_ST_name : ByteArray := prog_1_method_24_code
def y_ST_name : MethodName := ⟨"SheetTrees", "name", "(II)I"⟩
abbrev b_ST_settle : ByteArray := prog_1_method_25_code
def y_ST_settle : MethodName := ⟨"SheetTrees", "settle", "()Z"⟩
abbrev b_ST_tell : ByteArray := prog_1_method_26_code
def y_ST_tell : MethodName := ⟨"SheetTrees", "tell", "(IIIIJ)Z"⟩
abbrev b_ST_heard : ByteArray := prog_1_method_27_code
def y_ST_heard : MethodName := ⟨"SheetTrees", "heard", "(IIIIJ)J"⟩
abbrev b_ST_needSheet : ByteArray := prog_1_method_28_code
def y_ST_needSheet : MethodName := ⟨"SheetTrees", "needSheet", "(I)V"⟩
abbrev b_ST_needPlacement : ByteArray := prog_1_method_29_code
def y_ST_needPlacement : MethodName := ⟨"SheetTrees", "needPlacement", "(I)V"⟩
abbrev b_ST_needName : ByteArray := prog_1_method_30_code
def y_ST_needName : MethodName := ⟨"SheetTrees", "needName", "(I)V"⟩
abbrev b_ST_needPart : ByteArray := prog_1_method_31_code
def y_ST_needPart : MethodName := ⟨"SheetTrees", "needPart", "(I)V"⟩
abbrev b_ST_needGate : ByteArray := prog_1_method_32_code
def y_ST_needGate : MethodName := ⟨"SheetTrees", "needGate", "(II)V"⟩
abbrev b_ST_needUnit : ByteArray := prog_1_method_33_code
def y_ST_needUnit : MethodName := ⟨"SheetTrees", "needUnit", "(II)V"⟩
abbrev b_ST_needVariant : ByteArray := prog_1_method_34_code
def y_ST_needVariant : MethodName := ⟨"SheetTrees", "needVariant", "(I)V"⟩
abbrev b_ST_needVariantOrNone : ByteArray := prog_1_method_35_code
def y_ST_needVariantOrNone : MethodName := ⟨"SheetTrees", "needVariantOrNone", "(I)V"⟩
abbrev b_ST_needPage : ByteArray := prog_1_method_36_code
def y_ST_needPage : MethodName := ⟨"SheetTrees", "needPage", "(I)V"⟩
abbrev b_ST_holdsName : ByteArray := prog_1_method_37_code
def y_ST_holdsName : MethodName := ⟨"SheetTrees", "holdsName", "(II)Z"⟩
abbrev b_ST_read : ByteArray := prog_1_method_38_code
def y_ST_read : MethodName := ⟨"SheetTrees", "read", "([II)I"⟩
abbrev b_ST_write : ByteArray := prog_1_method_39_code
def y_ST_write : MethodName := ⟨"SheetTrees", "write", "([III)V"⟩
abbrev b_Book_init : ByteArray := prog_2_method_1_code
def y_Book_init : MethodName := ⟨"SheetTrees$Book", "<init>", "(LSheetTrees$Sheets;)V"⟩
abbrev b_Book_lay : ByteArray := prog_2_method_2_code
def y_Book_lay : MethodName := ⟨"SheetTrees$Book", "lay", "()V"⟩
abbrev b_Book_addPage : ByteArray := prog_2_method_3_code
def y_Book_addPage : MethodName := ⟨"SheetTrees$Book", "addPage", "(IIII)I"⟩
abbrev b_Book_isWithinLimit : ByteArray := prog_2_method_4_code
def y_Book_isWithinLimit : MethodName := ⟨"SheetTrees$Book", "isWithinLimit", "()Z"⟩
abbrev b_Book_count : ByteArray := prog_2_method_5_code
def y_Book_count : MethodName := ⟨"SheetTrees$Book", "count", "()I"⟩
abbrev b_Book_sheetAt : ByteArray := prog_2_method_6_code
def y_Book_sheetAt : MethodName := ⟨"SheetTrees$Book", "sheetAt", "(I)I"⟩
abbrev b_Book_placementAt : ByteArray := prog_2_method_7_code
def y_Book_placementAt : MethodName := ⟨"SheetTrees$Book", "placementAt", "(I)I"⟩
abbrev b_Book_pageAbove : ByteArray := prog_2_method_8_code
def y_Book_pageAbove : MethodName := ⟨"SheetTrees$Book", "pageAbove", "(I)I"⟩
abbrev b_Book_depthAt : ByteArray := prog_2_method_9_code
def y_Book_depthAt : MethodName := ⟨"SheetTrees$Book", "depthAt", "(I)I"⟩
abbrev b_Book_comingAt : ByteArray := prog_2_method_10_code
def y_Book_comingAt : MethodName := ⟨"SheetTrees$Book", "comingAt", "(I)I"⟩
abbrev b_Book_comingsOf : ByteArray := prog_2_method_11_code
def y_Book_comingsOf : MethodName := ⟨"SheetTrees$Book", "comingsOf", "(I)I"⟩
abbrev b_Book_pageOfComing : ByteArray := prog_2_method_12_code
def y_Book_pageOfComing : MethodName := ⟨"SheetTrees$Book", "pageOfComing", "(II)I"⟩
abbrev b_Change_init : ByteArray := prog_3_method_1_code
def y_Change_init : MethodName := ⟨"SheetTrees$Change", "<init>", "()V"⟩
abbrev b_Change_fill : ByteArray := prog_3_method_2_code
def y_Change_fill : MethodName := ⟨"SheetTrees$Change", "fill", "(LSheetTrees$Row;IJLSheetTrees$Change;)V"⟩
abbrev b_Change_takeBack : ByteArray := prog_3_method_3_code
def y_Change_takeBack : MethodName := ⟨"SheetTrees$Change", "takeBack", "()V"⟩
abbrev b_Journal_init : ByteArray := prog_4_method_1_code
def y_Journal_init : MethodName := ⟨"SheetTrees$Journal", "<init>", "()V"⟩
abbrev b_Journal_note : ByteArray := prog_4_method_2_code
def y_Journal_note : MethodName := ⟨"SheetTrees$Journal", "note", "(LSheetTrees$Row;IJ)V"⟩
abbrev b_Journal_keep : ByteArray := prog_4_method_3_code
def y_Journal_keep : MethodName := ⟨"SheetTrees$Journal", "keep", "()V"⟩
abbrev b_Journal_takeBack : ByteArray := prog_4_method_4_code
def y_Journal_takeBack : MethodName := ⟨"SheetTrees$Journal", "takeBack", "()V"⟩
abbrev b_Journal_setFree : ByteArray := prog_4_method_5_code
def y_Journal_setFree : MethodName := ⟨"SheetTrees$Journal", "setFree", "(LSheetTrees$Change;)V"⟩
abbrev b_Journal_stepBack : ByteArray := prog_4_method_6_code
def y_Journal_stepBack : MethodName := ⟨"SheetTrees$Journal", "stepBack", "()Z"⟩
abbrev b_Journal_getAct : ByteArray := prog_4_method_7_code
def y_Journal_getAct : MethodName := ⟨"SheetTrees$Journal", "getAct", "(I)LSheetTrees$Change;"⟩
abbrev b_Journal_putAct : ByteArray := prog_4_method_8_code
def y_Journal_putAct : MethodName := ⟨"SheetTrees$Journal", "putAct", "(ILSheetTrees$Change;)V"⟩
abbrev b_Parts_init : ByteArray := prog_5_method_1_code
def y_Parts_init : MethodName := ⟨"SheetTrees$Parts", "<init>", "(LSheetTrees$Journal;LSheetTrees$Book;)V"⟩
abbrev b_Parts_isPart : ByteArray := prog_5_method_2_code
def y_Parts_isPart : MethodName := ⟨"SheetTrees$Parts", "isPart", "(I)Z"⟩
abbrev b_Parts_partsLeft : ByteArray := prog_5_method_3_code
def y_Parts_partsLeft : MethodName := ⟨"SheetTrees$Parts", "partsLeft", "()I"⟩
abbrev b_Parts_letterOf : ByteArray := prog_5_method_4_code
def y_Parts_letterOf : MethodName := ⟨"SheetTrees$Parts", "letterOf", "(I)I"⟩
abbrev b_Parts_gateCount : ByteArray := prog_5_method_5_code
def y_Parts_gateCount : MethodName := ⟨"SheetTrees$Parts", "gateCount", "(I)I"⟩
abbrev b_Parts_sheetOfGate : ByteArray := prog_5_method_6_code
def y_Parts_sheetOfGate : MethodName := ⟨"SheetTrees$Parts", "sheetOfGate", "(II)I"⟩
abbrev b_Parts_gatesOn : ByteArray := prog_5_method_7_code
def y_Parts_gatesOn : MethodName := ⟨"SheetTrees$Parts", "gatesOn", "(I)I"⟩
abbrev b_Parts_gateAt : ByteArray := prog_5_method_8_code
def y_Parts_gateAt : MethodName := ⟨"SheetTrees$Parts", "gateAt", "(II)I"⟩
abbrev b_Parts_partAt : ByteArray := prog_5_method_9_code
def y_Parts_partAt : MethodName := ⟨"SheetTrees$Parts", "partAt", "(II)I"⟩
abbrev b_Parts_addPart : ByteArray := prog_5_method_10_code
def y_Parts_addPart : MethodName := ⟨"SheetTrees$Parts", "addPart", "(II)I"⟩
abbrev b_Parts_layGate : ByteArray := prog_5_method_11_code
def y_Parts_layGate : MethodName := ⟨"SheetTrees$Parts", "layGate", "(III)V"⟩
abbrev b_Parts_partsOn : ByteArray := prog_5_method_12_code
def y_Parts_partsOn : MethodName := ⟨"SheetTrees$Parts", "partsOn", "(I)I"⟩
abbrev b_Parts_addPartsLike : ByteArray := prog_5_method_13_code
def y_Parts_addPartsLike : MethodName := ⟨"SheetTrees$Parts", "addPartsLike", "(II)V"⟩
abbrev b_Parts_unitCount : ByteArray := prog_5_method_14_code
def y_Parts_unitCount : MethodName := ⟨"SheetTrees$Parts", "unitCount", "(I)I"⟩
abbrev b_Parts_numberOf : ByteArray := prog_5_method_15_code
def y_Parts_numberOf : MethodName := ⟨"SheetTrees$Parts", "numberOf", "(IIZ)I"⟩
abbrev b_Parts_newUnitsAt : ByteArray := prog_5_method_16_code
def y_Parts_newUnitsAt : MethodName := ⟨"SheetTrees$Parts", "newUnitsAt", "(III)I"⟩
abbrev b_Row_init : ByteArray := prog_6_method_1_code
def y_Row_init : MethodName := ⟨"SheetTrees$Row", "<init>", "(LSheetTrees$Journal;IJ)V"⟩
abbrev b_Row_longAt : ByteArray := prog_6_method_2_code
def y_Row_longAt : MethodName := ⟨"SheetTrees$Row", "longAt", "(I)J"⟩
abbrev b_Row_at : ByteArray := prog_6_method_3_code
def y_Row_at : MethodName := ⟨"SheetTrees$Row", "at", "(I)I"⟩
abbrev b_Row_set : ByteArray := prog_6_method_4_code
def y_Row_set : MethodName := ⟨"SheetTrees$Row", "set", "(IJ)V"⟩
abbrev b_Row_restore : ByteArray := prog_6_method_5_code
def y_Row_restore : MethodName := ⟨"SheetTrees$Row", "restore", "(IJ)V"⟩
abbrev b_Sheets_init : ByteArray := prog_7_method_1_code
def y_Sheets_init : MethodName := ⟨"SheetTrees$Sheets", "<init>", "(LSheetTrees$Journal;)V"⟩
abbrev b_Sheets_sheetCount : ByteArray := prog_7_method_2_code
def y_Sheets_sheetCount : MethodName := ⟨"SheetTrees$Sheets", "sheetCount", "()I"⟩
abbrev b_Sheets_placementsLeft : ByteArray := prog_7_method_3_code
def y_Sheets_placementsLeft : MethodName := ⟨"SheetTrees$Sheets", "placementsLeft", "()I"⟩
abbrev b_Sheets_isSheet : ByteArray := prog_7_method_4_code
def y_Sheets_isSheet : MethodName := ⟨"SheetTrees$Sheets", "isSheet", "(I)Z"⟩
abbrev b_Sheets_isPlacement : ByteArray := prog_7_method_5_code
def y_Sheets_isPlacement : MethodName := ⟨"SheetTrees$Sheets", "isPlacement", "(I)Z"⟩
abbrev b_Sheets_sheetOf : ByteArray := prog_7_method_6_code
def y_Sheets_sheetOf : MethodName := ⟨"SheetTrees$Sheets", "sheetOf", "(I)I"⟩
abbrev b_Sheets_parentOf : ByteArray := prog_7_method_7_code
def y_Sheets_parentOf : MethodName := ⟨"SheetTrees$Sheets", "parentOf", "(I)I"⟩
abbrev b_Sheets_firstOn : ByteArray := prog_7_method_8_code
def y_Sheets_firstOn : MethodName := ⟨"SheetTrees$Sheets", "firstOn", "(I)I"⟩
abbrev b_Sheets_nextOf : ByteArray := prog_7_method_9_code
def y_Sheets_nextOf : MethodName := ⟨"SheetTrees$Sheets", "nextOf", "(I)I"⟩
abbrev b_Sheets_placementsOn : ByteArray := prog_7_method_10_code
def y_Sheets_placementsOn : MethodName := ⟨"SheetTrees$Sheets", "placementsOn", "(I)I"⟩
abbrev b_Sheets_holds : ByteArray := prog_7_method_11_code
def y_Sheets_holds : MethodName := ⟨"SheetTrees$Sheets", "holds", "(II)Z"⟩
abbrev b_Sheets_withPlacedOn : ByteArray := prog_7_method_12_code
def y_Sheets_withPlacedOn : MethodName := ⟨"SheetTrees$Sheets", "withPlacedOn", "(I)I"⟩
abbrev b_Sheets_addSheet : ByteArray := prog_7_method_13_code
def y_Sheets_addSheet : MethodName := ⟨"SheetTrees$Sheets", "addSheet", "()I"⟩
abbrev b_Sheets_addSheetLike : ByteArray := prog_7_method_14_code
def y_Sheets_addSheetLike : MethodName := ⟨"SheetTrees$Sheets", "addSheetLike", "(I)I"⟩
abbrev b_Sheets_copyJoints : ByteArray := prog_7_method_15_code
def y_Sheets_copyJoints : MethodName := ⟨"SheetTrees$Sheets", "copyJoints", "(II)V"⟩
abbrev b_Sheets_addPlacement : ByteArray := prog_7_method_16_code
def y_Sheets_addPlacement : MethodName := ⟨"SheetTrees$Sheets", "addPlacement", "(II)I"⟩
abbrev b_Sheets_takeAway : ByteArray := prog_7_method_17_code
def y_Sheets_takeAway : MethodName := ⟨"SheetTrees$Sheets", "takeAway", "(I)V"⟩
abbrev b_Sheets_bringTo : ByteArray := prog_7_method_18_code
def y_Sheets_bringTo : MethodName := ⟨"SheetTrees$Sheets", "bringTo", "(II)I"⟩
abbrev b_Sheets_append : ByteArray := prog_7_method_19_code
def y_Sheets_append : MethodName := ⟨"SheetTrees$Sheets", "append", "(II)V"⟩
abbrev b_Sheets_unlink : ByteArray := prog_7_method_20_code
def y_Sheets_unlink : MethodName := ⟨"SheetTrees$Sheets", "unlink", "(I)V"⟩
abbrev b_Sheets_cellBefore : ByteArray := prog_7_method_21_code
def y_Sheets_cellBefore : MethodName := ⟨"SheetTrees$Sheets", "cellBefore", "(II)I"⟩
abbrev b_Sheets_headOf : ByteArray := prog_7_method_22_code
def y_Sheets_headOf : MethodName := ⟨"SheetTrees$Sheets", "headOf", "(I)I"⟩
abbrev b_Sheets_tells : ByteArray := prog_7_method_23_code
def y_Sheets_tells : MethodName := ⟨"SheetTrees$Sheets", "tells", "(II)Z"⟩
abbrev b_Sheets_addName : ByteArray := prog_7_method_24_code
def y_Sheets_addName : MethodName := ⟨"SheetTrees$Sheets", "addName", "(II)V"⟩
abbrev b_Sheets_jointOf : ByteArray := prog_7_method_25_code
def y_Sheets_jointOf : MethodName := ⟨"SheetTrees$Sheets", "jointOf", "(II)I"⟩
abbrev b_Sheets_setJoint : ByteArray := prog_7_method_26_code
def y_Sheets_setJoint : MethodName := ⟨"SheetTrees$Sheets", "setJoint", "(III)V"⟩
abbrev b_Variants_init : ByteArray := prog_8_method_1_code
def y_Variants_init : MethodName := ⟨"SheetTrees$Variants", "<init>", "(LSheetTrees$Journal;LSheetTrees$Book;)V"⟩
abbrev b_Variants_count : ByteArray := prog_8_method_2_code
def y_Variants_count : MethodName := ⟨"SheetTrees$Variants", "count", "()I"⟩
abbrev b_Variants_isVariant : ByteArray := prog_8_method_3_code
def y_Variants_isVariant : MethodName := ⟨"SheetTrees$Variants", "isVariant", "(I)Z"⟩
abbrev b_Variants_addVariant : ByteArray := prog_8_method_4_code
def y_Variants_addVariant : MethodName := ⟨"SheetTrees$Variants", "addVariant", "(I)I"⟩
abbrev b_Variants_content : ByteArray := prog_8_method_5_code
def y_Variants_content : MethodName := ⟨"SheetTrees$Variants", "content", "(I)J"⟩
abbrev b_Variants_tell : ByteArray := prog_8_method_6_code
def y_Variants_tell : MethodName := ⟨"SheetTrees$Variants", "tell", "(IIIIJ)Z"⟩
abbrev b_Variants_nearest : ByteArray := prog_8_method_7_code
def y_Variants_nearest : MethodName := ⟨"SheetTrees$Variants", "nearest", "(IIII)I"⟩
abbrev b_Variants_find : ByteArray := prog_8_method_8_code
def y_Variants_find : MethodName := ⟨"SheetTrees$Variants", "find", "(II)I"⟩
abbrev b_Variants_isAt : ByteArray := prog_8_method_9_code
def y_Variants_isAt : MethodName := ⟨"SheetTrees$Variants", "isAt", "(II)Z"⟩
abbrev b_Variants_addTelling : ByteArray := prog_8_method_10_code
def y_Variants_addTelling : MethodName := ⟨"SheetTrees$Variants", "addTelling", "(II)I"⟩
abbrev b_Variants_subjectOf : ByteArray := prog_8_method_11_code
def y_Variants_subjectOf : MethodName := ⟨"SheetTrees$Variants", "subjectOf", "(III)I"⟩
abbrev b_Arrays_fillI : ByteArray := prog_18_method_103_code
def y_Arrays_fillI : MethodName := ⟨"java/util/Arrays", "fill", "([II)V"⟩
abbrev b_Arrays_fillL : ByteArray := prog_18_method_101_code
def y_Arrays_fillL : MethodName := ⟨"java/util/Arrays", "fill", "([JJ)V"⟩
abbrev b_Mo_init : ByteArray := prog_10_method_1_code
def y_Mo_init : MethodName := ⟨"SheetTreesModel", "<init>", "()V"⟩
abbrev b_Mo_thrown : ByteArray := prog_10_method_2_code
def y_Mo_thrown : MethodName := ⟨"SheetTreesModel", "thrown", "()I"⟩
abbrev b_Mo_count : ByteArray := prog_10_method_3_code
def y_Mo_count : MethodName := ⟨"SheetTreesModel", "count", "(I)I"⟩
abbrev b_Mo_begin : ByteArray := prog_10_method_4_code
def y_Mo_begin : MethodName := ⟨"SheetTreesModel", "begin", "()V"⟩
abbrev b_Mo_giveBack : ByteArray := prog_10_method_5_code
def y_Mo_giveBack : MethodName := ⟨"SheetTreesModel", "giveBack", "()V"⟩
abbrev b_Mo_done : ByteArray := prog_10_method_6_code
def y_Mo_done : MethodName := ⟨"SheetTreesModel", "done", "()V"⟩
abbrev b_Mo_undo : ByteArray := prog_10_method_7_code
def y_Mo_undo : MethodName := ⟨"SheetTreesModel", "undo", "()Z"⟩
abbrev b_Mo_isSheet : ByteArray := prog_10_method_8_code
def y_Mo_isSheet : MethodName := ⟨"SheetTreesModel", "isSheet", "(I)Z"⟩
abbrev b_Mo_isPlacement : ByteArray := prog_10_method_9_code
def y_Mo_isPlacement : MethodName := ⟨"SheetTreesModel", "isPlacement", "(I)Z"⟩
abbrev b_Mo_isName : ByteArray := prog_10_method_10_code
def y_Mo_isName : MethodName := ⟨"SheetTreesModel", "isName", "(I)Z"⟩
abbrev b_Mo_isPart : ByteArray := prog_10_method_11_code
def y_Mo_isPart : MethodName := ⟨"SheetTreesModel", "isPart", "(I)Z"⟩
abbrev b_Mo_isGate : ByteArray := prog_10_method_12_code
def y_Mo_isGate : MethodName := ⟨"SheetTreesModel", "isGate", "(II)Z"⟩
abbrev b_Mo_isVariant : ByteArray := prog_10_method_13_code
def y_Mo_isVariant : MethodName := ⟨"SheetTreesModel", "isVariant", "(I)Z"⟩
abbrev b_Mo_hasName : ByteArray := prog_10_method_14_code
def y_Mo_hasName : MethodName := ⟨"SheetTreesModel", "hasName", "(JI)Z"⟩
abbrev b_Mo_next : ByteArray := prog_10_method_15_code
def y_Mo_next : MethodName := ⟨"SheetTreesModel", "next", "(IJ)I"⟩
abbrev b_Mo_addPage : ByteArray := prog_10_method_16_code
def y_Mo_addPage : MethodName := ⟨"SheetTreesModel", "addPage", "(IIII)V"⟩
abbrev b_Mo_turn : ByteArray := prog_10_method_17_code
def y_Mo_turn : MethodName := ⟨"SheetTreesModel", "turn", "()V"⟩
abbrev b_Mo_look : ByteArray := prog_10_method_18_code
def y_Mo_look : MethodName := ⟨"SheetTreesModel", "look", "()V"⟩
abbrev b_Mo_isPage : ByteArray := prog_10_method_19_code
def y_Mo_isPage : MethodName := ⟨"SheetTreesModel", "isPage", "(I)Z"⟩
abbrev b_Mo_liesIn : ByteArray := prog_10_method_20_code
def y_Mo_liesIn : MethodName := ⟨"SheetTreesModel", "liesIn", "(II)Z"⟩
abbrev b_Mo_hasRoom : ByteArray := prog_10_method_21_code
def y_Mo_hasRoom : MethodName := ⟨"SheetTreesModel", "hasRoom", "()Z"⟩
abbrev b_Mo_sheet : ByteArray := prog_10_method_22_code
def y_Mo_sheet : MethodName := ⟨"SheetTreesModel", "sheet", "()I"⟩
abbrev b_Mo_addPlacement : ByteArray := prog_10_method_23_code
def y_Mo_addPlacement : MethodName := ⟨"SheetTreesModel", "addPlacement", "(II)I"⟩
abbrev b_Mo_place : ByteArray := prog_10_method_24_code
def y_Mo_place : MethodName := ⟨"SheetTreesModel", "place", "(II)I"⟩
abbrev b_Mo_remove : ByteArray := prog_10_method_25_code
def y_Mo_remove : MethodName := ⟨"SheetTreesModel", "remove", "(I)Z"⟩
abbrev b_Mo_move : ByteArray := prog_10_method_26_code
def y_Mo_move : MethodName := ⟨"SheetTreesModel", "move", "(II)Z"⟩
abbrev b_Mo_told : ByteArray := prog_10_method_27_code
def y_Mo_told : MethodName := ⟨"SheetTreesModel", "told", "(I)I"⟩
abbrev b_Mo_port : ByteArray := prog_10_method_28_code
def y_Mo_port : MethodName := ⟨"SheetTreesModel", "port", "(II)Z"⟩
abbrev b_Mo_join : ByteArray := prog_10_method_29_code
def y_Mo_join : MethodName := ⟨"SheetTreesModel", "join", "(III)Z"⟩
abbrev b_Mo_joined : ByteArray := prog_10_method_30_code
def y_Mo_joined : MethodName := ⟨"SheetTreesModel", "joined", "(II)I"⟩
abbrev b_Mo_addPart : ByteArray := prog_10_method_31_code
def y_Mo_addPart : MethodName := ⟨"SheetTreesModel", "addPart", "(JJ)I"⟩
abbrev b_Mo_part : ByteArray := prog_10_method_32_code
def y_Mo_part : MethodName := ⟨"SheetTreesModel", "part", "(II)I"⟩
abbrev b_Mo_gatesOn : ByteArray := prog_10_method_33_code
def y_Mo_gatesOn : MethodName := ⟨"SheetTreesModel", "gatesOn", "(I)I"⟩
abbrev b_Mo_putGate : ByteArray := prog_10_method_34_code
def y_Mo_putGate : MethodName := ⟨"SheetTreesModel", "putGate", "(II)V"⟩
abbrev b_Mo_gate : ByteArray := prog_10_method_35_code
def y_Mo_gate : MethodName := ⟨"SheetTreesModel", "gate", "(III)Z"⟩
abbrev b_Mo_nextGate : ByteArray := prog_10_method_36_code
def y_Mo_nextGate : MethodName := ⟨"SheetTreesModel", "nextGate", "(IJ)I"⟩
abbrev b_Mo_partsOn : ByteArray := prog_10_method_37_code
def y_Mo_partsOn : MethodName := ⟨"SheetTreesModel", "partsOn", "(I)I"⟩
abbrev b_Mo_placementsOn : ByteArray := prog_10_method_38_code
def y_Mo_placementsOn : MethodName := ⟨"SheetTreesModel", "placementsOn", "(I)I"⟩
abbrev b_Mo_copy : ByteArray := prog_10_method_39_code
def y_Mo_copy : MethodName := ⟨"SheetTreesModel", "copy", "(I)I"⟩
abbrev b_Mo_rule : ByteArray := prog_10_method_40_code
def y_Mo_rule : MethodName := ⟨"SheetTreesModel", "rule", "(I)Z"⟩
abbrev b_Mo_variant : ByteArray := prog_10_method_41_code
def y_Mo_variant : MethodName := ⟨"SheetTreesModel", "variant", "(I)I"⟩
abbrev b_Mo_pathOf : ByteArray := prog_10_method_42_code
def y_Mo_pathOf : MethodName := ⟨"SheetTreesModel", "pathOf", "(I)I"⟩
abbrev b_Mo_find : ByteArray := prog_10_method_43_code
def y_Mo_find : MethodName := ⟨"SheetTreesModel", "find", "(IIII)I"⟩
abbrev b_Mo_tell : ByteArray := prog_10_method_44_code
def y_Mo_tell : MethodName := ⟨"SheetTreesModel", "tell", "(IIIIJ)Z"⟩
abbrev b_Mo_value : ByteArray := prog_10_method_45_code
def y_Mo_value : MethodName := ⟨"SheetTreesModel", "value", "(IIIJ)Z"⟩
abbrev b_Mo_fit : ByteArray := prog_10_method_46_code
def y_Mo_fit : MethodName := ⟨"SheetTreesModel", "fit", "(IIIZ)Z"⟩
abbrev b_Mo_ask : ByteArray := prog_10_method_47_code
def y_Mo_ask : MethodName := ⟨"SheetTreesModel", "ask", "(IIII)J"⟩
abbrev b_Mo_valueOf : ByteArray := prog_10_method_48_code
def y_Mo_valueOf : MethodName := ⟨"SheetTreesModel", "valueOf", "(III)J"⟩
abbrev b_Mo_fitted : ByteArray := prog_10_method_49_code
def y_Mo_fitted : MethodName := ⟨"SheetTreesModel", "fitted", "(III)Z"⟩
abbrev b_Mo_pages : ByteArray := prog_10_method_50_code
def y_Mo_pages : MethodName := ⟨"SheetTreesModel", "pages", "()I"⟩
abbrev b_Mo_page : ByteArray := prog_10_method_51_code
def y_Mo_page : MethodName := ⟨"SheetTreesModel", "page", "(II)I"⟩
abbrev b_Mo_pageOf : ByteArray := prog_10_method_52_code
def y_Mo_pageOf : MethodName := ⟨"SheetTreesModel", "pageOf", "(JI)I"⟩
abbrev b_Mo_unitsOf : ByteArray := prog_10_method_53_code
def y_Mo_unitsOf : MethodName := ⟨"SheetTreesModel", "unitsOf", "(I)I"⟩
abbrev b_Mo_units : ByteArray := prog_10_method_54_code
def y_Mo_units : MethodName := ⟨"SheetTreesModel", "units", "(I)I"⟩
abbrev b_Mo_where : ByteArray := prog_10_method_55_code
def y_Mo_where : MethodName := ⟨"SheetTreesModel", "where", "(III)I"⟩
abbrev b_Mo_first : ByteArray := prog_10_method_56_code
def y_Mo_first : MethodName := ⟨"SheetTreesModel", "first", "(II)V"⟩
abbrev b_Mo_name : ByteArray := prog_10_method_57_code
def y_Mo_name : MethodName := ⟨"SheetTreesModel", "name", "(II)I"⟩
abbrev b_Law_place : ByteArray := method_3_code
def y_Law_place : MethodName := ⟨"SheetTreesLaw", "place", "(LSheetTrees;II[J)I"⟩
abbrev b_Law_remove : ByteArray := method_4_code
def y_Law_remove : MethodName := ⟨"SheetTreesLaw", "remove", "(LSheetTrees;I[J)I"⟩
abbrev b_Law_move : ByteArray := method_5_code
def y_Law_move : MethodName := ⟨"SheetTreesLaw", "move", "(LSheetTrees;II[J)I"⟩
abbrev b_Law_port : ByteArray := method_6_code
def y_Law_port : MethodName := ⟨"SheetTreesLaw", "port", "(LSheetTrees;II[J)I"⟩
abbrev b_Law_join : ByteArray := method_7_code
def y_Law_join : MethodName := ⟨"SheetTreesLaw", "join", "(LSheetTrees;III[J)I"⟩
abbrev b_Law_joined : ByteArray := method_8_code
def y_Law_joined : MethodName := ⟨"SheetTreesLaw", "joined", "(LSheetTrees;II[J)I"⟩
abbrev b_Law_part : ByteArray := method_9_code
def y_Law_part : MethodName := ⟨"SheetTreesLaw", "part", "(LSheetTrees;II[J)I"⟩
abbrev b_Law_gate : ByteArray := method_10_code
def y_Law_gate : MethodName := ⟨"SheetTreesLaw", "gate", "(LSheetTrees;III[J)I"⟩
abbrev b_Law_copy : ByteArray := method_11_code
def y_Law_copy : MethodName := ⟨"SheetTreesLaw", "copy", "(LSheetTrees;I[J)I"⟩
abbrev b_Law_rule : ByteArray := method_12_code
def y_Law_rule : MethodName := ⟨"SheetTreesLaw", "rule", "(LSheetTrees;I[J)I"⟩
abbrev b_Law_variant : ByteArray := method_13_code
def y_Law_variant : MethodName := ⟨"SheetTreesLaw", "variant", "(LSheetTrees;I[J)I"⟩
abbrev b_Law_value : ByteArray := method_14_code
def y_Law_value : MethodName := ⟨"SheetTreesLaw", "value", "(LSheetTrees;IIIJ[J)I"⟩
abbrev b_Law_fit : ByteArray := method_15_code
def y_Law_fit : MethodName := ⟨"SheetTreesLaw", "fit", "(LSheetTrees;IIIZ[J)I"⟩
abbrev b_Law_valueOf : ByteArray := method_16_code
def y_Law_valueOf : MethodName := ⟨"SheetTreesLaw", "valueOf", "(LSheetTrees;III[J)I"⟩
abbrev b_Law_fitted : ByteArray := method_17_code
def y_Law_fitted : MethodName := ⟨"SheetTreesLaw", "fitted", "(LSheetTrees;III[J)I"⟩
abbrev b_Law_page : ByteArray := method_18_code
def y_Law_page : MethodName := ⟨"SheetTreesLaw", "page", "(LSheetTrees;II[J)I"⟩
abbrev b_Law_units : ByteArray := method_19_code
def y_Law_units : MethodName := ⟨"SheetTreesLaw", "units", "(LSheetTrees;I[J)I"⟩
abbrev b_Law_where : ByteArray := method_20_code
def y_Law_where : MethodName := ⟨"SheetTreesLaw", "where", "(LSheetTrees;III[J)I"⟩
abbrev b_Law_name : ByteArray := method_21_code
def y_Law_name : MethodName := ⟨"SheetTreesLaw", "name", "(LSheetTrees;II[J)I"⟩
