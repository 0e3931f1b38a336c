def m_ST_needSheet (σ : SC) (x0 : Int32) : Option (Unit) :=
  if (bi (m_Sheets_isSheet σ x0)) = 0 then
    none
  else
    some ()

def m_ST_needPlacement (σ : SC) (x0 : Int32) : Option (Unit) :=
  if (bi (m_Sheets_isPlacement σ x0)) = 0 then
    none
  else
    some ()

def m_ST_needName (σ : SC) (x0 : Int32) : Option (Unit) :=
  if x0 < 0 then
    none
  else
    if x0 < 32 then
      some ()
    else
      none

def m_ST_needPart (σ : SC) (x0 : Int32) : Option (Unit) :=
  if (bi (m_Parts_isPart σ x0)) = 0 then
    none
  else
    some ()

def m_ST_needGate (σ : SC) (x0 : Int32) (x1 : Int32) : Option (Unit) :=
  if x1 < 0 then
    none
  else
    if x1 < (m_Parts_gateCount σ x0) then
      some ()
    else
      none

def m_ST_needUnit (σ : SC) (x0 : Int32) (x1 : Int32) : Option (Unit) :=
  if x1 < 0 then
    none
  else
    if x1 < (m_Parts_unitCount σ x0) then
      some ()
    else
      none

def m_ST_needVariant (σ : SC) (x0 : Int32) : Option (Unit) :=
  if (bi (m_Variants_isVariant σ x0)) = 0 then
    none
  else
    some ()

def m_ST_needPage (σ : SC) (x0 : Int32) : Option (Unit) :=
  if x0 < 0 then
    none
  else
    if x0 < (m_Book_count σ) then
      some ()
    else
      none

def m_ST_needVariantOrNone (σ : SC) (x0 : Int32) : Option (Unit) :=
  if x0 = (-1) then
    some ()
  else
    match m_ST_needVariant σ x0 with
    | none => none
    | some u_2 =>
      some ()

section SC
variable {l : Launch} {D : va_G} {N0 N1 : Nat} {G : Nat → Nat → Nat} {cI cL cQ : ClassId} {rest : va_W}
set_option maxHeartbeats 400000 in
set_option maxRecDepth 100000 in
theorem c_ST_needSheet (σ : SC) (π : PJ) (x0 : Int32) (RES : Unit) (hR : m_ST_needSheet σ x0 = some RES) : CM l y_ST_needSheet b_ST_needSheet 2 (none) { frames := 3, cells := 0, slots := 0, locals := 62 } D (tyL cI cL cQ) N0 N1 [.ref (G 0 0), .int x0] (wsC G cI cL cQ σ π rest) (none) (fun w => w = wsC G cI cL cQ σ π rest) 0 0 := by
  refine met_of (own := R_ST) (by decide) rfl nwl_ok ?_
  intro p e s m below meth c hC hin hB
  have hx := hC.1
  have hb := hC.2.1
  have hl := lv_entry ([.ref (G 0 0), .int x0]) (n := 2) (Nat.le_of_ble_eq_true rfl)
  rw [lg_entry_eq]
  generalize (lg_sl ([.ref (G 0 0), .int x0]) ++ List.replicate (2 - (lg_sl ([.ref (G 0 0), .int x0])).length) Slot.unset).toArray = ls at hl ⊢
  have hl : lv_has ls 2 [(0, .ref (G 0 0)), (1, .int x0)] := hl
  rw [m_ST_needSheet] at hR
  refine lv_aload_n hx hb d_ST_needSheet_0 rfl (lv_at hl 0 rfl) ?_
  refine gt hC hB _ lkC_ST rfl i_ST 1 (by decide) rfl kw_257 rfl d_ST_needSheet_1 ?_
  refine lv_iload_n hx hb d_ST_needSheet_4 rfl (lv_at hl 1 rfl) ?_
  refine kV hC hB _ lkC_Sheets rfl (c_Sheets_isSheet σ π x0) allw_ok mf_Sheets_isSheet kw_392 kw_393 kw_391 ⟨rfl, rfl, Nat.le_of_ble_eq_true rfl, Nat.le_of_ble_eq_true rfl⟩ rfl rfl hl.1 (Nat.le_of_ble_eq_true rfl) d_ST_needSheet_5 ⟨Nat.le_of_ble_eq_true rfl, Nat.le_of_ble_eq_true rfl⟩ (roK fun H locs hB => ?_)
  refine lv_if_ne (tgt := 22) hx hb d_ST_needSheet_8 (by decide) (fun c_1 => ?_) (fun c_1 => ?_)
  · rw [if_neg c_1] at hR
    obtain rfl := Option.some.inj hR
    exact rv hC hB rfl d_ST_needSheet_22
  · rw [if_pos c_1] at hR
    cases hR

set_option maxHeartbeats 400000 in
set_option maxRecDepth 100000 in
theorem x_ST_needSheet (htl : l.stackTraces = false) (σ : SC) (π : PJ) (x0 : Int32) (hR : m_ST_needSheet σ x0 = none) : MX l y_ST_needSheet b_ST_needSheet 2 (none) { frames := 6, cells := 1, slots := 6, locals := 90 } D classes (tyL cI cL cQ) NWL ALLW N0 N1 [.ref (G 0 0), .int x0] (wsC G cI cL cQ σ π rest) "java/lang/IndexOutOfBoundsException" 1 6 := by
  refine mx_of (own := R_ST) (by decide) rfl nwl_ok ?_
  intro p e s m below meth c hC hex hSW hB
  have hB0 := hB
  have hx := hC.1
  have hb := hC.2.1
  have hl := lv_entry ([.ref (G 0 0), .int x0]) (n := 2) (Nat.le_of_ble_eq_true rfl)
  rw [lg_entry_eq]
  generalize (lg_sl ([.ref (G 0 0), .int x0]) ++ List.replicate (2 - (lg_sl ([.ref (G 0 0), .int x0])).length) Slot.unset).toArray = ls at hl ⊢
  have hl : lv_has ls 2 [(0, .ref (G 0 0)), (1, .int x0)] := hl
  rw [m_ST_needSheet] at hR
  refine lv_aload_n hx hb d_ST_needSheet_0 rfl (lv_at hl 0 rfl) ?_
  refine gt hC hB _ lkC_ST rfl i_ST 1 (by decide) rfl kw_257 rfl d_ST_needSheet_1 ?_
  refine lv_iload_n hx hb d_ST_needSheet_4 rfl (lv_at hl 1 rfl) ?_
  refine kV hC hB _ lkC_Sheets rfl (c_Sheets_isSheet σ π x0) allw_ok mf_Sheets_isSheet kw_392 kw_393 kw_391 ⟨rfl, rfl, Nat.le_of_ble_eq_true rfl, Nat.le_of_ble_eq_true rfl⟩ rfl rfl hl.1 (Nat.le_of_ble_eq_true rfl) d_ST_needSheet_5 ⟨Nat.le_of_ble_eq_true rfl, Nat.le_of_ble_eq_true rfl⟩ (roK fun H locs hB => ?_)
  refine lv_if_ne (tgt := 22) hx hb d_ST_needSheet_8 (by decide) (fun c_1 => ?_) (fun c_1 => ?_)
  · rw [if_neg c_1] at hR
    cases hR
  · rw [if_pos c_1] at hR
    obtain ⟨sa, hsa⟩ := hSW.2.1 _ (List.mem_of_getElem? (i := 0) rfl)
    exact tx_new (names := ["java/lang/RuntimeException", "java/lang/Exception"]) htl hC hB0 hB (by decide) (by decide) (ownIO 220 _ hC.2.2.2.2.2.1 hSW own_IOB) kw_395 kw_15 hsa hl.1 d_ST_needSheet_11 d_ST_needSheet_14 d_ST_needSheet_15 d_ST_needSheet_18 d_ST_needSheet_21 hex (Nat.le_of_ble_eq_true rfl) (Nat.le_of_ble_eq_true rfl) (Nat.le_of_ble_eq_true rfl) (Nat.le_of_ble_eq_true rfl) (Nat.le_of_ble_eq_true rfl) (Nat.le_of_ble_eq_true rfl)

set_option maxHeartbeats 400000 in
set_option maxRecDepth 100000 in
theorem c_ST_needPlacement (σ : SC) (π : PJ) (x0 : Int32) (RES : Unit) (hR : m_ST_needPlacement σ x0 = some RES) : CM l y_ST_needPlacement b_ST_needPlacement 2 (none) { frames := 3, cells := 0, slots := 0, locals := 63 } D (tyL cI cL cQ) N0 N1 [.ref (G 0 0), .int x0] (wsC G cI cL cQ σ π rest) (none) (fun w => w = wsC G cI cL cQ σ π rest) 0 0 := by
  refine met_of (own := R_ST) (by decide) rfl nwl_ok ?_
  intro p e s m below meth c hC hin hB
  have hx := hC.1
  have hb := hC.2.1
  have hl := lv_entry ([.ref (G 0 0), .int x0]) (n := 2) (Nat.le_of_ble_eq_true rfl)
  rw [lg_entry_eq]
  generalize (lg_sl ([.ref (G 0 0), .int x0]) ++ List.replicate (2 - (lg_sl ([.ref (G 0 0), .int x0])).length) Slot.unset).toArray = ls at hl ⊢
  have hl : lv_has ls 2 [(0, .ref (G 0 0)), (1, .int x0)] := hl
  rw [m_ST_needPlacement] at hR
  refine lv_aload_n hx hb d_ST_needPlacement_0 rfl (lv_at hl 0 rfl) ?_
  refine gt hC hB _ lkC_ST rfl i_ST 1 (by decide) rfl kw_257 rfl d_ST_needPlacement_1 ?_
  refine lv_iload_n hx hb d_ST_needPlacement_4 rfl (lv_at hl 1 rfl) ?_
  refine kV hC hB _ lkC_Sheets rfl (c_Sheets_isPlacement σ π x0) allw_ok mf_Sheets_isPlacement kw_475 kw_476 kw_515 ⟨rfl, rfl, Nat.le_of_ble_eq_true rfl, Nat.le_of_ble_eq_true rfl⟩ rfl rfl hl.1 (Nat.le_of_ble_eq_true rfl) d_ST_needPlacement_5 ⟨Nat.le_of_ble_eq_true rfl, Nat.le_of_ble_eq_true rfl⟩ (roK fun H locs hB => ?_)
  refine lv_if_ne (tgt := 22) hx hb d_ST_needPlacement_8 (by decide) (fun c_1 => ?_) (fun c_1 => ?_)
  · rw [if_neg c_1] at hR
    obtain rfl := Option.some.inj hR
    exact rv hC hB rfl d_ST_needPlacement_22
  · rw [if_pos c_1] at hR
    cases hR

set_option maxHeartbeats 400000 in
set_option maxRecDepth 100000 in
theorem x_ST_needPlacement (htl : l.stackTraces = false) (σ : SC) (π : PJ) (x0 : Int32) (hR : m_ST_needPlacement σ x0 = none) : MX l y_ST_needPlacement b_ST_needPlacement 2 (none) { frames := 6, cells := 1, slots := 6, locals := 90 } D classes (tyL cI cL cQ) NWL ALLW N0 N1 [.ref (G 0 0), .int x0] (wsC G cI cL cQ σ π rest) "java/lang/IndexOutOfBoundsException" 1 6 := by
  refine mx_of (own := R_ST) (by decide) rfl nwl_ok ?_
  intro p e s m below meth c hC hex hSW hB
  have hB0 := hB
  have hx := hC.1
  have hb := hC.2.1
  have hl := lv_entry ([.ref (G 0 0), .int x0]) (n := 2) (Nat.le_of_ble_eq_true rfl)
  rw [lg_entry_eq]
  generalize (lg_sl ([.ref (G 0 0), .int x0]) ++ List.replicate (2 - (lg_sl ([.ref (G 0 0), .int x0])).length) Slot.unset).toArray = ls at hl ⊢
  have hl : lv_has ls 2 [(0, .ref (G 0 0)), (1, .int x0)] := hl
  rw [m_ST_needPlacement] at hR
  refine lv_aload_n hx hb d_ST_needPlacement_0 rfl (lv_at hl 0 rfl) ?_
  refine gt hC hB _ lkC_ST rfl i_ST 1 (by decide) rfl kw_257 rfl d_ST_needPlacement_1 ?_
  refine lv_iload_n hx hb d_ST_needPlacement_4 rfl (lv_at hl 1 rfl) ?_
  refine kV hC hB _ lkC_Sheets rfl (c_Sheets_isPlacement σ π x0) allw_ok mf_Sheets_isPlacement kw_475 kw_476 kw_515 ⟨rfl, rfl, Nat.le_of_ble_eq_true rfl, Nat.le_of_ble_eq_true rfl⟩ rfl rfl hl.1 (Nat.le_of_ble_eq_true rfl) d_ST_needPlacement_5 ⟨Nat.le_of_ble_eq_true rfl, Nat.le_of_ble_eq_true rfl⟩ (roK fun H locs hB => ?_)
  refine lv_if_ne (tgt := 22) hx hb d_ST_needPlacement_8 (by decide) (fun c_1 => ?_) (fun c_1 => ?_)
  · rw [if_neg c_1] at hR
    cases hR
  · rw [if_pos c_1] at hR
    obtain ⟨sa, hsa⟩ := hSW.2.1 _ (List.mem_of_getElem? (i := 1) rfl)
    exact tx_new (names := ["java/lang/RuntimeException", "java/lang/Exception"]) htl hC hB0 hB (by decide) (by decide) (ownIO 220 _ hC.2.2.2.2.2.1 hSW own_IOB) kw_395 kw_15 hsa hl.1 d_ST_needPlacement_11 d_ST_needPlacement_14 d_ST_needPlacement_15 d_ST_needPlacement_18 d_ST_needPlacement_21 hex (Nat.le_of_ble_eq_true rfl) (Nat.le_of_ble_eq_true rfl) (Nat.le_of_ble_eq_true rfl) (Nat.le_of_ble_eq_true rfl) (Nat.le_of_ble_eq_true rfl) (Nat.le_of_ble_eq_true rfl)

set_option maxHeartbeats 400000 in
set_option maxRecDepth 100000 in
theorem c_ST_needName (σ : SC) (π : PJ) (x0 : Int32) (RES : Unit) (hR : m_ST_needName σ x0 = some RES) : CM l y_ST_needName b_ST_needName 2 (none) { frames := 0, cells := 0, slots := 0, locals := 0 } D (tyL cI cL cQ) N0 N1 [.ref (G 0 0), .int x0] (wsC G cI cL cQ σ π rest) (none) (fun w => w = wsC G cI cL cQ σ π rest) 0 0 := by
  refine met_of (own := R_ST) (by decide) rfl nwl_ok ?_
  intro p e s m below meth c hC hin hB
  have hx := hC.1
  have hb := hC.2.1
  have hl := lv_entry ([.ref (G 0 0), .int x0]) (n := 2) (Nat.le_of_ble_eq_true rfl)
  rw [lg_entry_eq]
  generalize (lg_sl ([.ref (G 0 0), .int x0]) ++ List.replicate (2 - (lg_sl ([.ref (G 0 0), .int x0])).length) Slot.unset).toArray = ls at hl ⊢
  have hl : lv_has ls 2 [(0, .ref (G 0 0)), (1, .int x0)] := hl
  rw [m_ST_needName] at hR
  refine lv_iload_n hx hb d_ST_needName_0 rfl (lv_at hl 1 rfl) ?_
  refine lv_if_lt (tgt := 10) hx hb d_ST_needName_1 (by decide) (fun c_1 => ?_) (fun c_1 => ?_)
  · rw [if_pos c_1] at hR
    cases hR
  · rw [if_neg c_1] at hR
    refine lv_iload_n hx hb d_ST_needName_4 rfl (lv_at hl 1 rfl) ?_
    refine lv_bipush (v := 32) hx hb d_ST_needName_5 (by decide) ?_
    refine lv_icmp_lt (tgt := 21) hx hb d_ST_needName_7 (by decide) (fun c_2 => ?_) (fun c_2 => ?_)
    · rw [if_pos c_2] at hR
      obtain rfl := Option.some.inj hR
      exact rv hC hB rfl d_ST_needName_21
    · rw [if_neg c_2] at hR
      cases hR

set_option maxHeartbeats 400000 in
set_option maxRecDepth 100000 in
theorem x_ST_needName (htl : l.stackTraces = false) (σ : SC) (π : PJ) (x0 : Int32) (hR : m_ST_needName σ x0 = none) : MX l y_ST_needName b_ST_needName 2 (none) { frames := 6, cells := 1, slots := 6, locals := 90 } D classes (tyL cI cL cQ) NWL ALLW N0 N1 [.ref (G 0 0), .int x0] (wsC G cI cL cQ σ π rest) "java/lang/IndexOutOfBoundsException" 1 6 := by
  refine mx_of (own := R_ST) (by decide) rfl nwl_ok ?_
  intro p e s m below meth c hC hex hSW hB
  have hB0 := hB
  have hx := hC.1
  have hb := hC.2.1
  have hl := lv_entry ([.ref (G 0 0), .int x0]) (n := 2) (Nat.le_of_ble_eq_true rfl)
  rw [lg_entry_eq]
  generalize (lg_sl ([.ref (G 0 0), .int x0]) ++ List.replicate (2 - (lg_sl ([.ref (G 0 0), .int x0])).length) Slot.unset).toArray = ls at hl ⊢
  have hl : lv_has ls 2 [(0, .ref (G 0 0)), (1, .int x0)] := hl
  rw [m_ST_needName] at hR
  refine lv_iload_n hx hb d_ST_needName_0 rfl (lv_at hl 1 rfl) ?_
  refine lv_if_lt (tgt := 10) hx hb d_ST_needName_1 (by decide) (fun c_1 => ?_) (fun c_1 => ?_)
  · rw [if_pos c_1] at hR
    obtain ⟨sa, hsa⟩ := hSW.2.1 _ (List.mem_of_getElem? (i := 2) rfl)
    exact tx_new (names := ["java/lang/RuntimeException", "java/lang/Exception"]) htl hC hB0 hB (by decide) (by decide) (ownIO 220 _ hC.2.2.2.2.2.1 hSW own_IOB) kw_395 kw_15 hsa hl.1 d_ST_needName_10 d_ST_needName_13 d_ST_needName_14 d_ST_needName_17 d_ST_needName_20 hex (Nat.le_of_ble_eq_true rfl) (Nat.le_of_ble_eq_true rfl) (Nat.le_of_ble_eq_true rfl) (Nat.le_of_ble_eq_true rfl) (Nat.le_of_ble_eq_true rfl) (Nat.le_of_ble_eq_true rfl)
  · rw [if_neg c_1] at hR
    refine lv_iload_n hx hb d_ST_needName_4 rfl (lv_at hl 1 rfl) ?_
    refine lv_bipush (v := 32) hx hb d_ST_needName_5 (by decide) ?_
    refine lv_icmp_lt (tgt := 21) hx hb d_ST_needName_7 (by decide) (fun c_2 => ?_) (fun c_2 => ?_)
    · rw [if_pos c_2] at hR
      cases hR
    · rw [if_neg c_2] at hR
      obtain ⟨sa, hsa⟩ := hSW.2.1 _ (List.mem_of_getElem? (i := 2) rfl)
      exact tx_new (names := ["java/lang/RuntimeException", "java/lang/Exception"]) htl hC hB0 hB (by decide) (by decide) (ownIO 220 _ hC.2.2.2.2.2.1 hSW own_IOB) kw_395 kw_15 hsa hl.1 d_ST_needName_10 d_ST_needName_13 d_ST_needName_14 d_ST_needName_17 d_ST_needName_20 hex (Nat.le_of_ble_eq_true rfl) (Nat.le_of_ble_eq_true rfl) (Nat.le_of_ble_eq_true rfl) (Nat.le_of_ble_eq_true rfl) (Nat.le_of_ble_eq_true rfl) (Nat.le_of_ble_eq_true rfl)

set_option maxHeartbeats 400000 in
set_option maxRecDepth 100000 in
theorem c_ST_needPart (σ : SC) (π : PJ) (x0 : Int32) (RES : Unit) (hR : m_ST_needPart σ x0 = some RES) : CM l y_ST_needPart b_ST_needPart 2 (none) { frames := 2, cells := 0, slots := 0, locals := 42 } D (tyL cI cL cQ) N0 N1 [.ref (G 0 0), .int x0] (wsC G cI cL cQ σ π rest) (none) (fun w => w = wsC G cI cL cQ σ π rest) 0 0 := by
  refine met_of (own := R_ST) (by decide) rfl nwl_ok ?_
  intro p e s m below meth c hC hin hB
  have hx := hC.1
  have hb := hC.2.1
  have hl := lv_entry ([.ref (G 0 0), .int x0]) (n := 2) (Nat.le_of_ble_eq_true rfl)
  rw [lg_entry_eq]
  generalize (lg_sl ([.ref (G 0 0), .int x0]) ++ List.replicate (2 - (lg_sl ([.ref (G 0 0), .int x0])).length) Slot.unset).toArray = ls at hl ⊢
  have hl : lv_has ls 2 [(0, .ref (G 0 0)), (1, .int x0)] := hl
  rw [m_ST_needPart] at hR
  refine lv_aload_n hx hb d_ST_needPart_0 rfl (lv_at hl 0 rfl) ?_
  refine gt hC hB _ lkC_ST rfl i_ST 3 (by decide) rfl kw_259 rfl d_ST_needPart_1 ?_
  refine lv_iload_n hx hb d_ST_needPart_4 rfl (lv_at hl 1 rfl) ?_
  refine kV hC hB _ lkC_Parts rfl (c_Parts_isPart σ π x0) allw_ok mf_Parts_isPart kw_631 kw_632 kw_630 ⟨rfl, rfl, Nat.le_of_ble_eq_true rfl, Nat.le_of_ble_eq_true rfl⟩ rfl rfl hl.1 (Nat.le_of_ble_eq_true rfl) d_ST_needPart_5 ⟨Nat.le_of_ble_eq_true rfl, Nat.le_of_ble_eq_true rfl⟩ (roK fun H locs hB => ?_)
  refine lv_if_ne (tgt := 22) hx hb d_ST_needPart_8 (by decide) (fun c_1 => ?_) (fun c_1 => ?_)
  · rw [if_neg c_1] at hR
    obtain rfl := Option.some.inj hR
    exact rv hC hB rfl d_ST_needPart_22
  · rw [if_pos c_1] at hR
    cases hR

set_option maxHeartbeats 400000 in
set_option maxRecDepth 100000 in
theorem x_ST_needPart (htl : l.stackTraces = false) (σ : SC) (π : PJ) (x0 : Int32) (hR : m_ST_needPart σ x0 = none) : MX l y_ST_needPart b_ST_needPart 2 (none) { frames := 6, cells := 1, slots := 6, locals := 90 } D classes (tyL cI cL cQ) NWL ALLW N0 N1 [.ref (G 0 0), .int x0] (wsC G cI cL cQ σ π rest) "java/lang/IndexOutOfBoundsException" 1 6 := by
  refine mx_of (own := R_ST) (by decide) rfl nwl_ok ?_
  intro p e s m below meth c hC hex hSW hB
  have hB0 := hB
  have hx := hC.1
  have hb := hC.2.1
  have hl := lv_entry ([.ref (G 0 0), .int x0]) (n := 2) (Nat.le_of_ble_eq_true rfl)
  rw [lg_entry_eq]
  generalize (lg_sl ([.ref (G 0 0), .int x0]) ++ List.replicate (2 - (lg_sl ([.ref (G 0 0), .int x0])).length) Slot.unset).toArray = ls at hl ⊢
  have hl : lv_has ls 2 [(0, .ref (G 0 0)), (1, .int x0)] := hl
  rw [m_ST_needPart] at hR
  refine lv_aload_n hx hb d_ST_needPart_0 rfl (lv_at hl 0 rfl) ?_
  refine gt hC hB _ lkC_ST rfl i_ST 3 (by decide) rfl kw_259 rfl d_ST_needPart_1 ?_
  refine lv_iload_n hx hb d_ST_needPart_4 rfl (lv_at hl 1 rfl) ?_
  refine kV hC hB _ lkC_Parts rfl (c_Parts_isPart σ π x0) allw_ok mf_Parts_isPart kw_631 kw_632 kw_630 ⟨rfl, rfl, Nat.le_of_ble_eq_true rfl, Nat.le_of_ble_eq_true rfl⟩ rfl rfl hl.1 (Nat.le_of_ble_eq_true rfl) d_ST_needPart_5 ⟨Nat.le_of_ble_eq_true rfl, Nat.le_of_ble_eq_true rfl⟩ (roK fun H locs hB => ?_)
  refine lv_if_ne (tgt := 22) hx hb d_ST_needPart_8 (by decide) (fun c_1 => ?_) (fun c_1 => ?_)
  · rw [if_neg c_1] at hR
    cases hR
  · rw [if_pos c_1] at hR
    obtain ⟨sa, hsa⟩ := hSW.2.1 _ (List.mem_of_getElem? (i := 4) rfl)
    exact tx_new (names := ["java/lang/RuntimeException", "java/lang/Exception"]) htl hC hB0 hB (by decide) (by decide) (ownIO 220 _ hC.2.2.2.2.2.1 hSW own_IOB) kw_395 kw_15 hsa hl.1 d_ST_needPart_11 d_ST_needPart_14 d_ST_needPart_15 d_ST_needPart_18 d_ST_needPart_21 hex (Nat.le_of_ble_eq_true rfl) (Nat.le_of_ble_eq_true rfl) (Nat.le_of_ble_eq_true rfl) (Nat.le_of_ble_eq_true rfl) (Nat.le_of_ble_eq_true rfl) (Nat.le_of_ble_eq_true rfl)

set_option maxHeartbeats 400000 in
set_option maxRecDepth 100000 in
theorem c_ST_needGate (σ : SC) (π : PJ) (x0 : Int32) (x1 : Int32) (RES : Unit) (hR : m_ST_needGate σ x0 x1 = some RES) : CM l y_ST_needGate b_ST_needGate 3 (none) { frames := 2, cells := 0, slots := 0, locals := 42 } D (tyL cI cL cQ) N0 N1 [.ref (G 0 0), .int x0, .int x1] (wsC G cI cL cQ σ π rest) (none) (fun w => w = wsC G cI cL cQ σ π rest) 0 0 := by
  refine met_of (own := R_ST) (by decide) rfl nwl_ok ?_
  intro p e s m below meth c hC hin hB
  have hx := hC.1
  have hb := hC.2.1
  have hl := lv_entry ([.ref (G 0 0), .int x0, .int x1]) (n := 3) (Nat.le_of_ble_eq_true rfl)
  rw [lg_entry_eq]
  generalize (lg_sl ([.ref (G 0 0), .int x0, .int x1]) ++ List.replicate (3 - (lg_sl ([.ref (G 0 0), .int x0, .int x1])).length) Slot.unset).toArray = ls at hl ⊢
  have hl : lv_has ls 3 [(0, .ref (G 0 0)), (1, .int x0), (2, .int x1)] := hl
  rw [m_ST_needGate] at hR
  refine lv_iload_n hx hb d_ST_needGate_0 rfl (lv_at hl 2 rfl) ?_
  refine lv_if_lt (tgt := 16) hx hb d_ST_needGate_1 (by decide) (fun c_1 => ?_) (fun c_1 => ?_)
  · rw [if_pos c_1] at hR
    cases hR
  · rw [if_neg c_1] at hR
    refine lv_iload_n hx hb d_ST_needGate_4 rfl (lv_at hl 2 rfl) ?_
    refine lv_aload_n hx hb d_ST_needGate_5 rfl (lv_at hl 0 rfl) ?_
    refine gt hC hB _ lkC_ST rfl i_ST 3 (by decide) rfl kw_259 rfl d_ST_needGate_6 ?_
    refine lv_iload_n hx hb d_ST_needGate_9 rfl (lv_at hl 1 rfl) ?_
    refine kV hC hB _ lkC_Parts rfl (c_Parts_gateCount σ π x0) allw_ok mf_Parts_gateCount kw_640 kw_641 kw_639 ⟨rfl, rfl, Nat.le_of_ble_eq_true rfl, Nat.le_of_ble_eq_true rfl⟩ rfl rfl hl.1 (Nat.le_of_ble_eq_true rfl) d_ST_needGate_10 ⟨Nat.le_of_ble_eq_true rfl, Nat.le_of_ble_eq_true rfl⟩ (roK fun H locs hB => ?_)
    refine lv_icmp_lt (tgt := 27) hx hb d_ST_needGate_13 (by decide) (fun c_2 => ?_) (fun c_2 => ?_)
    · rw [if_pos c_2] at hR
      obtain rfl := Option.some.inj hR
      exact rv hC hB rfl d_ST_needGate_27
    · rw [if_neg c_2] at hR
      cases hR

set_option maxHeartbeats 400000 in
set_option maxRecDepth 100000 in
theorem x_ST_needGate (htl : l.stackTraces = false) (σ : SC) (π : PJ) (x0 : Int32) (x1 : Int32) (hR : m_ST_needGate σ x0 x1 = none) : MX l y_ST_needGate b_ST_needGate 3 (none) { frames := 6, cells := 1, slots := 6, locals := 90 } D classes (tyL cI cL cQ) NWL ALLW N0 N1 [.ref (G 0 0), .int x0, .int x1] (wsC G cI cL cQ σ π rest) "java/lang/IndexOutOfBoundsException" 1 6 := by
  refine mx_of (own := R_ST) (by decide) rfl nwl_ok ?_
  intro p e s m below meth c hC hex hSW hB
  have hB0 := hB
  have hx := hC.1
  have hb := hC.2.1
  have hl := lv_entry ([.ref (G 0 0), .int x0, .int x1]) (n := 3) (Nat.le_of_ble_eq_true rfl)
  rw [lg_entry_eq]
  generalize (lg_sl ([.ref (G 0 0), .int x0, .int x1]) ++ List.replicate (3 - (lg_sl ([.ref (G 0 0), .int x0, .int x1])).length) Slot.unset).toArray = ls at hl ⊢
  have hl : lv_has ls 3 [(0, .ref (G 0 0)), (1, .int x0), (2, .int x1)] := hl
  rw [m_ST_needGate] at hR
  refine lv_iload_n hx hb d_ST_needGate_0 rfl (lv_at hl 2 rfl) ?_
  refine lv_if_lt (tgt := 16) hx hb d_ST_needGate_1 (by decide) (fun c_1 => ?_) (fun c_1 => ?_)
  · rw [if_pos c_1] at hR
    obtain ⟨sa, hsa⟩ := hSW.2.1 _ (List.mem_of_getElem? (i := 5) rfl)
    exact tx_new (names := ["java/lang/RuntimeException", "java/lang/Exception"]) htl hC hB0 hB (by decide) (by decide) (ownIO 220 _ hC.2.2.2.2.2.1 hSW own_IOB) kw_395 kw_15 hsa hl.1 d_ST_needGate_16 d_ST_needGate_19 d_ST_needGate_20 d_ST_needGate_23 d_ST_needGate_26 hex (Nat.le_of_ble_eq_true rfl) (Nat.le_of_ble_eq_true rfl) (Nat.le_of_ble_eq_true rfl) (Nat.le_of_ble_eq_true rfl) (Nat.le_of_ble_eq_true rfl) (Nat.le_of_ble_eq_true rfl)
  · rw [if_neg c_1] at hR
    refine lv_iload_n hx hb d_ST_needGate_4 rfl (lv_at hl 2 rfl) ?_
    refine lv_aload_n hx hb d_ST_needGate_5 rfl (lv_at hl 0 rfl) ?_
    refine gt hC hB _ lkC_ST rfl i_ST 3 (by decide) rfl kw_259 rfl d_ST_needGate_6 ?_
    refine lv_iload_n hx hb d_ST_needGate_9 rfl (lv_at hl 1 rfl) ?_
    refine kV hC hB _ lkC_Parts rfl (c_Parts_gateCount σ π x0) allw_ok mf_Parts_gateCount kw_640 kw_641 kw_639 ⟨rfl, rfl, Nat.le_of_ble_eq_true rfl, Nat.le_of_ble_eq_true rfl⟩ rfl rfl hl.1 (Nat.le_of_ble_eq_true rfl) d_ST_needGate_10 ⟨Nat.le_of_ble_eq_true rfl, Nat.le_of_ble_eq_true rfl⟩ (roK fun H locs hB => ?_)
    refine lv_icmp_lt (tgt := 27) hx hb d_ST_needGate_13 (by decide) (fun c_2 => ?_) (fun c_2 => ?_)
    · rw [if_pos c_2] at hR
      cases hR
    · rw [if_neg c_2] at hR
      obtain ⟨sa, hsa⟩ := hSW.2.1 _ (List.mem_of_getElem? (i := 5) rfl)
      exact tx_new (names := ["java/lang/RuntimeException", "java/lang/Exception"]) htl hC hB0 hB (by decide) (by decide) (ownIO 220 _ hC.2.2.2.2.2.1 hSW own_IOB) kw_395 kw_15 hsa hl.1 d_ST_needGate_16 d_ST_needGate_19 d_ST_needGate_20 d_ST_needGate_23 d_ST_needGate_26 hex (Nat.le_of_ble_eq_true rfl) (Nat.le_of_ble_eq_true rfl) (Nat.le_of_ble_eq_true rfl) (Nat.le_of_ble_eq_true rfl) (Nat.le_of_ble_eq_true rfl) (Nat.le_of_ble_eq_true rfl)

set_option maxHeartbeats 400000 in
set_option maxRecDepth 100000 in
theorem c_ST_needUnit (σ : SC) (π : PJ) (x0 : Int32) (x1 : Int32) (RES : Unit) (hR : m_ST_needUnit σ x0 x1 = some RES) : CM l y_ST_needUnit b_ST_needUnit 3 (none) { frames := 3, cells := 0, slots := 0, locals := 66 } D (tyL cI cL cQ) N0 N1 [.ref (G 0 0), .int x0, .int x1] (wsC G cI cL cQ σ π rest) (none) (fun w => w = wsC G cI cL cQ σ π rest) 0 0 := by
  refine met_of (own := R_ST) (by decide) rfl nwl_ok ?_
  intro p e s m below meth c hC hin hB
  have hx := hC.1
  have hb := hC.2.1
  have hl := lv_entry ([.ref (G 0 0), .int x0, .int x1]) (n := 3) (Nat.le_of_ble_eq_true rfl)
  rw [lg_entry_eq]
  generalize (lg_sl ([.ref (G 0 0), .int x0, .int x1]) ++ List.replicate (3 - (lg_sl ([.ref (G 0 0), .int x0, .int x1])).length) Slot.unset).toArray = ls at hl ⊢
  have hl : lv_has ls 3 [(0, .ref (G 0 0)), (1, .int x0), (2, .int x1)] := hl
  rw [m_ST_needUnit] at hR
  refine lv_iload_n hx hb d_ST_needUnit_0 rfl (lv_at hl 2 rfl) ?_
  refine lv_if_lt (tgt := 16) hx hb d_ST_needUnit_1 (by decide) (fun c_1 => ?_) (fun c_1 => ?_)
  · rw [if_pos c_1] at hR
    cases hR
  · rw [if_neg c_1] at hR
    refine lv_iload_n hx hb d_ST_needUnit_4 rfl (lv_at hl 2 rfl) ?_
    refine lv_aload_n hx hb d_ST_needUnit_5 rfl (lv_at hl 0 rfl) ?_
    refine gt hC hB _ lkC_ST rfl i_ST 3 (by decide) rfl kw_259 rfl d_ST_needUnit_6 ?_
    refine lv_iload_n hx hb d_ST_needUnit_9 rfl (lv_at hl 1 rfl) ?_
    refine kV hC hB _ lkC_Parts rfl (c_Parts_unitCount σ π x0) allw_ok mf_Parts_unitCount kw_839 kw_840 kw_838 ⟨rfl, rfl, Nat.le_of_ble_eq_true rfl, Nat.le_of_ble_eq_true rfl⟩ rfl rfl hl.1 (Nat.le_of_ble_eq_true rfl) d_ST_needUnit_10 ⟨Nat.le_of_ble_eq_true rfl, Nat.le_of_ble_eq_true rfl⟩ (roK fun H locs hB => ?_)
    refine lv_icmp_lt (tgt := 27) hx hb d_ST_needUnit_13 (by decide) (fun c_2 => ?_) (fun c_2 => ?_)
    · rw [if_pos c_2] at hR
      obtain rfl := Option.some.inj hR
      exact rv hC hB rfl d_ST_needUnit_27
    · rw [if_neg c_2] at hR
      cases hR

set_option maxHeartbeats 400000 in
set_option maxRecDepth 100000 in
theorem x_ST_needUnit (htl : l.stackTraces = false) (σ : SC) (π : PJ) (x0 : Int32) (x1 : Int32) (hR : m_ST_needUnit σ x0 x1 = none) : MX l y_ST_needUnit b_ST_needUnit 3 (none) { frames := 6, cells := 1, slots := 6, locals := 90 } D classes (tyL cI cL cQ) NWL ALLW N0 N1 [.ref (G 0 0), .int x0, .int x1] (wsC G cI cL cQ σ π rest) "java/lang/IndexOutOfBoundsException" 1 6 := by
  refine mx_of (own := R_ST) (by decide) rfl nwl_ok ?_
  intro p e s m below meth c hC hex hSW hB
  have hB0 := hB
  have hx := hC.1
  have hb := hC.2.1
  have hl := lv_entry ([.ref (G 0 0), .int x0, .int x1]) (n := 3) (Nat.le_of_ble_eq_true rfl)
  rw [lg_entry_eq]
  generalize (lg_sl ([.ref (G 0 0), .int x0, .int x1]) ++ List.replicate (3 - (lg_sl ([.ref (G 0 0), .int x0, .int x1])).length) Slot.unset).toArray = ls at hl ⊢
  have hl : lv_has ls 3 [(0, .ref (G 0 0)), (1, .int x0), (2, .int x1)] := hl
  rw [m_ST_needUnit] at hR
  refine lv_iload_n hx hb d_ST_needUnit_0 rfl (lv_at hl 2 rfl) ?_
  refine lv_if_lt (tgt := 16) hx hb d_ST_needUnit_1 (by decide) (fun c_1 => ?_) (fun c_1 => ?_)
  · rw [if_pos c_1] at hR
    obtain ⟨sa, hsa⟩ := hSW.2.1 _ (List.mem_of_getElem? (i := 10) rfl)
    exact tx_new (names := ["java/lang/RuntimeException", "java/lang/Exception"]) htl hC hB0 hB (by decide) (by decide) (ownIO 220 _ hC.2.2.2.2.2.1 hSW own_IOB) kw_395 kw_15 hsa hl.1 d_ST_needUnit_16 d_ST_needUnit_19 d_ST_needUnit_20 d_ST_needUnit_23 d_ST_needUnit_26 hex (Nat.le_of_ble_eq_true rfl) (Nat.le_of_ble_eq_true rfl) (Nat.le_of_ble_eq_true rfl) (Nat.le_of_ble_eq_true rfl) (Nat.le_of_ble_eq_true rfl) (Nat.le_of_ble_eq_true rfl)
  · rw [if_neg c_1] at hR
    refine lv_iload_n hx hb d_ST_needUnit_4 rfl (lv_at hl 2 rfl) ?_
    refine lv_aload_n hx hb d_ST_needUnit_5 rfl (lv_at hl 0 rfl) ?_
    refine gt hC hB _ lkC_ST rfl i_ST 3 (by decide) rfl kw_259 rfl d_ST_needUnit_6 ?_
    refine lv_iload_n hx hb d_ST_needUnit_9 rfl (lv_at hl 1 rfl) ?_
    refine kV hC hB _ lkC_Parts rfl (c_Parts_unitCount σ π x0) allw_ok mf_Parts_unitCount kw_839 kw_840 kw_838 ⟨rfl, rfl, Nat.le_of_ble_eq_true rfl, Nat.le_of_ble_eq_true rfl⟩ rfl rfl hl.1 (Nat.le_of_ble_eq_true rfl) d_ST_needUnit_10 ⟨Nat.le_of_ble_eq_true rfl, Nat.le_of_ble_eq_true rfl⟩ (roK fun H locs hB => ?_)
    refine lv_icmp_lt (tgt := 27) hx hb d_ST_needUnit_13 (by decide) (fun c_2 => ?_) (fun c_2 => ?_)
    · rw [if_pos c_2] at hR
      cases hR
    · rw [if_neg c_2] at hR
      obtain ⟨sa, hsa⟩ := hSW.2.1 _ (List.mem_of_getElem? (i := 10) rfl)
      exact tx_new (names := ["java/lang/RuntimeException", "java/lang/Exception"]) htl hC hB0 hB (by decide) (by decide) (ownIO 220 _ hC.2.2.2.2.2.1 hSW own_IOB) kw_395 kw_15 hsa hl.1 d_ST_needUnit_16 d_ST_needUnit_19 d_ST_needUnit_20 d_ST_needUnit_23 d_ST_needUnit_26 hex (Nat.le_of_ble_eq_true rfl) (Nat.le_of_ble_eq_true rfl) (Nat.le_of_ble_eq_true rfl) (Nat.le_of_ble_eq_true rfl) (Nat.le_of_ble_eq_true rfl) (Nat.le_of_ble_eq_true rfl)

set_option maxHeartbeats 400000 in
set_option maxRecDepth 100000 in
theorem c_ST_needVariant (σ : SC) (π : PJ) (x0 : Int32) (RES : Unit) (hR : m_ST_needVariant σ x0 = some RES) : CM l y_ST_needVariant b_ST_needVariant 2 (none) { frames := 3, cells := 0, slots := 0, locals := 62 } D (tyL cI cL cQ) N0 N1 [.ref (G 0 0), .int x0] (wsC G cI cL cQ σ π rest) (none) (fun w => w = wsC G cI cL cQ σ π rest) 0 0 := by
  refine met_of (own := R_ST) (by decide) rfl nwl_ok ?_
  intro p e s m below meth c hC hin hB
  have hx := hC.1
  have hb := hC.2.1
  have hl := lv_entry ([.ref (G 0 0), .int x0]) (n := 2) (Nat.le_of_ble_eq_true rfl)
  rw [lg_entry_eq]
  generalize (lg_sl ([.ref (G 0 0), .int x0]) ++ List.replicate (2 - (lg_sl ([.ref (G 0 0), .int x0])).length) Slot.unset).toArray = ls at hl ⊢
  have hl : lv_has ls 2 [(0, .ref (G 0 0)), (1, .int x0)] := hl
  rw [m_ST_needVariant] at hR
  refine lv_aload_n hx hb d_ST_needVariant_0 rfl (lv_at hl 0 rfl) ?_
  refine gt hC hB _ lkC_ST rfl i_ST 4 (by decide) rfl kw_260 rfl d_ST_needVariant_1 ?_
  refine lv_iload_n hx hb d_ST_needVariant_4 rfl (lv_at hl 1 rfl) ?_
  refine kV hC hB _ lkC_Variants rfl (c_Variants_isVariant σ π x0) allw_ok mf_Variants_isVariant kw_731 kw_732 kw_730 ⟨rfl, rfl, Nat.le_of_ble_eq_true rfl, Nat.le_of_ble_eq_true rfl⟩ rfl rfl hl.1 (Nat.le_of_ble_eq_true rfl) d_ST_needVariant_5 ⟨Nat.le_of_ble_eq_true rfl, Nat.le_of_ble_eq_true rfl⟩ (roK fun H locs hB => ?_)
  refine lv_if_ne (tgt := 22) hx hb d_ST_needVariant_8 (by decide) (fun c_1 => ?_) (fun c_1 => ?_)
  · rw [if_neg c_1] at hR
    obtain rfl := Option.some.inj hR
    exact rv hC hB rfl d_ST_needVariant_22
  · rw [if_pos c_1] at hR
    cases hR

set_option maxHeartbeats 400000 in
set_option maxRecDepth 100000 in
theorem x_ST_needVariant (htl : l.stackTraces = false) (σ : SC) (π : PJ) (x0 : Int32) (hR : m_ST_needVariant σ x0 = none) : MX l y_ST_needVariant b_ST_needVariant 2 (none) { frames := 6, cells := 1, slots := 6, locals := 90 } D classes (tyL cI cL cQ) NWL ALLW N0 N1 [.ref (G 0 0), .int x0] (wsC G cI cL cQ σ π rest) "java/lang/IndexOutOfBoundsException" 1 6 := by
  refine mx_of (own := R_ST) (by decide) rfl nwl_ok ?_
  intro p e s m below meth c hC hex hSW hB
  have hB0 := hB
  have hx := hC.1
  have hb := hC.2.1
  have hl := lv_entry ([.ref (G 0 0), .int x0]) (n := 2) (Nat.le_of_ble_eq_true rfl)
  rw [lg_entry_eq]
  generalize (lg_sl ([.ref (G 0 0), .int x0]) ++ List.replicate (2 - (lg_sl ([.ref (G 0 0), .int x0])).length) Slot.unset).toArray = ls at hl ⊢
  have hl : lv_has ls 2 [(0, .ref (G 0 0)), (1, .int x0)] := hl
  rw [m_ST_needVariant] at hR
  refine lv_aload_n hx hb d_ST_needVariant_0 rfl (lv_at hl 0 rfl) ?_
  refine gt hC hB _ lkC_ST rfl i_ST 4 (by decide) rfl kw_260 rfl d_ST_needVariant_1 ?_
  refine lv_iload_n hx hb d_ST_needVariant_4 rfl (lv_at hl 1 rfl) ?_
  refine kV hC hB _ lkC_Variants rfl (c_Variants_isVariant σ π x0) allw_ok mf_Variants_isVariant kw_731 kw_732 kw_730 ⟨rfl, rfl, Nat.le_of_ble_eq_true rfl, Nat.le_of_ble_eq_true rfl⟩ rfl rfl hl.1 (Nat.le_of_ble_eq_true rfl) d_ST_needVariant_5 ⟨Nat.le_of_ble_eq_true rfl, Nat.le_of_ble_eq_true rfl⟩ (roK fun H locs hB => ?_)
  refine lv_if_ne (tgt := 22) hx hb d_ST_needVariant_8 (by decide) (fun c_1 => ?_) (fun c_1 => ?_)
  · rw [if_neg c_1] at hR
    cases hR
  · rw [if_pos c_1] at hR
    obtain ⟨sa, hsa⟩ := hSW.2.1 _ (List.mem_of_getElem? (i := 7) rfl)
    exact tx_new (names := ["java/lang/RuntimeException", "java/lang/Exception"]) htl hC hB0 hB (by decide) (by decide) (ownIO 220 _ hC.2.2.2.2.2.1 hSW own_IOB) kw_395 kw_15 hsa hl.1 d_ST_needVariant_11 d_ST_needVariant_14 d_ST_needVariant_15 d_ST_needVariant_18 d_ST_needVariant_21 hex (Nat.le_of_ble_eq_true rfl) (Nat.le_of_ble_eq_true rfl) (Nat.le_of_ble_eq_true rfl) (Nat.le_of_ble_eq_true rfl) (Nat.le_of_ble_eq_true rfl) (Nat.le_of_ble_eq_true rfl)

set_option maxHeartbeats 400000 in
set_option maxRecDepth 100000 in
theorem c_ST_needPage (σ : SC) (π : PJ) (x0 : Int32) (RES : Unit) (hR : m_ST_needPage σ x0 = some RES) : CM l y_ST_needPage b_ST_needPage 2 (none) { frames := 1, cells := 0, slots := 0, locals := 20 } D (tyL cI cL cQ) N0 N1 [.ref (G 0 0), .int x0] (wsC G cI cL cQ σ π rest) (none) (fun w => w = wsC G cI cL cQ σ π rest) 0 0 := by
  refine met_of (own := R_ST) (by decide) rfl nwl_ok ?_
  intro p e s m below meth c hC hin hB
  have hx := hC.1
  have hb := hC.2.1
  have hl := lv_entry ([.ref (G 0 0), .int x0]) (n := 2) (Nat.le_of_ble_eq_true rfl)
  rw [lg_entry_eq]
  generalize (lg_sl ([.ref (G 0 0), .int x0]) ++ List.replicate (2 - (lg_sl ([.ref (G 0 0), .int x0])).length) Slot.unset).toArray = ls at hl ⊢
  have hl : lv_has ls 2 [(0, .ref (G 0 0)), (1, .int x0)] := hl
  rw [m_ST_needPage] at hR
  refine lv_iload_n hx hb d_ST_needPage_0 rfl (lv_at hl 1 rfl) ?_
  refine lv_if_lt (tgt := 15) hx hb d_ST_needPage_1 (by decide) (fun c_1 => ?_) (fun c_1 => ?_)
  · rw [if_pos c_1] at hR
    cases hR
  · rw [if_neg c_1] at hR
    refine lv_iload_n hx hb d_ST_needPage_4 rfl (lv_at hl 1 rfl) ?_
    refine lv_aload_n hx hb d_ST_needPage_5 rfl (lv_at hl 0 rfl) ?_
    refine gt hC hB _ lkC_ST rfl i_ST 2 (by decide) rfl kw_258 rfl d_ST_needPage_6 ?_
    refine kV hC hB _ lkC_Book rfl (c_Book_count σ π) allw_ok mf_Book_count kw_376 kw_377 kw_375 ⟨rfl, rfl, Nat.le_of_ble_eq_true rfl, Nat.le_of_ble_eq_true rfl⟩ rfl rfl hl.1 (Nat.le_of_ble_eq_true rfl) d_ST_needPage_9 ⟨Nat.le_of_ble_eq_true rfl, Nat.le_of_ble_eq_true rfl⟩ (roK fun H locs hB => ?_)
    refine lv_icmp_lt (tgt := 26) hx hb d_ST_needPage_12 (by decide) (fun c_2 => ?_) (fun c_2 => ?_)
    · rw [if_pos c_2] at hR
      obtain rfl := Option.some.inj hR
      exact rv hC hB rfl d_ST_needPage_26
    · rw [if_neg c_2] at hR
      cases hR

set_option maxHeartbeats 400000 in
set_option maxRecDepth 100000 in
theorem x_ST_needPage (htl : l.stackTraces = false) (σ : SC) (π : PJ) (x0 : Int32) (hR : m_ST_needPage σ x0 = none) : MX l y_ST_needPage b_ST_needPage 2 (none) { frames := 6, cells := 1, slots := 6, locals := 90 } D classes (tyL cI cL cQ) NWL ALLW N0 N1 [.ref (G 0 0), .int x0] (wsC G cI cL cQ σ π rest) "java/lang/IndexOutOfBoundsException" 1 6 := by
  refine mx_of (own := R_ST) (by decide) rfl nwl_ok ?_
  intro p e s m below meth c hC hex hSW hB
  have hB0 := hB
  have hx := hC.1
  have hb := hC.2.1
  have hl := lv_entry ([.ref (G 0 0), .int x0]) (n := 2) (Nat.le_of_ble_eq_true rfl)
  rw [lg_entry_eq]
  generalize (lg_sl ([.ref (G 0 0), .int x0]) ++ List.replicate (2 - (lg_sl ([.ref (G 0 0), .int x0])).length) Slot.unset).toArray = ls at hl ⊢
  have hl : lv_has ls 2 [(0, .ref (G 0 0)), (1, .int x0)] := hl
  rw [m_ST_needPage] at hR
  refine lv_iload_n hx hb d_ST_needPage_0 rfl (lv_at hl 1 rfl) ?_
  refine lv_if_lt (tgt := 15) hx hb d_ST_needPage_1 (by decide) (fun c_1 => ?_) (fun c_1 => ?_)
  · rw [if_pos c_1] at hR
    obtain ⟨sa, hsa⟩ := hSW.2.1 _ (List.mem_of_getElem? (i := 8) rfl)
    exact tx_new (names := ["java/lang/RuntimeException", "java/lang/Exception"]) htl hC hB0 hB (by decide) (by decide) (ownIO 220 _ hC.2.2.2.2.2.1 hSW own_IOB) kw_395 kw_15 hsa hl.1 d_ST_needPage_15 d_ST_needPage_18 d_ST_needPage_19 d_ST_needPage_22 d_ST_needPage_25 hex (Nat.le_of_ble_eq_true rfl) (Nat.le_of_ble_eq_true rfl) (Nat.le_of_ble_eq_true rfl) (Nat.le_of_ble_eq_true rfl) (Nat.le_of_ble_eq_true rfl) (Nat.le_of_ble_eq_true rfl)
  · rw [if_neg c_1] at hR
    refine lv_iload_n hx hb d_ST_needPage_4 rfl (lv_at hl 1 rfl) ?_
    refine lv_aload_n hx hb d_ST_needPage_5 rfl (lv_at hl 0 rfl) ?_
    refine gt hC hB _ lkC_ST rfl i_ST 2 (by decide) rfl kw_258 rfl d_ST_needPage_6 ?_
    refine kV hC hB _ lkC_Book rfl (c_Book_count σ π) allw_ok mf_Book_count kw_376 kw_377 kw_375 ⟨rfl, rfl, Nat.le_of_ble_eq_true rfl, Nat.le_of_ble_eq_true rfl⟩ rfl rfl hl.1 (Nat.le_of_ble_eq_true rfl) d_ST_needPage_9 ⟨Nat.le_of_ble_eq_true rfl, Nat.le_of_ble_eq_true rfl⟩ (roK fun H locs hB => ?_)
    refine lv_icmp_lt (tgt := 26) hx hb d_ST_needPage_12 (by decide) (fun c_2 => ?_) (fun c_2 => ?_)
    · rw [if_pos c_2] at hR
      cases hR
    · rw [if_neg c_2] at hR
      obtain ⟨sa, hsa⟩ := hSW.2.1 _ (List.mem_of_getElem? (i := 8) rfl)
      exact tx_new (names := ["java/lang/RuntimeException", "java/lang/Exception"]) htl hC hB0 hB (by decide) (by decide) (ownIO 220 _ hC.2.2.2.2.2.1 hSW own_IOB) kw_395 kw_15 hsa hl.1 d_ST_needPage_15 d_ST_needPage_18 d_ST_needPage_19 d_ST_needPage_22 d_ST_needPage_25 hex (Nat.le_of_ble_eq_true rfl) (Nat.le_of_ble_eq_true rfl) (Nat.le_of_ble_eq_true rfl) (Nat.le_of_ble_eq_true rfl) (Nat.le_of_ble_eq_true rfl) (Nat.le_of_ble_eq_true rfl)

set_option maxHeartbeats 400000 in
set_option maxRecDepth 100000 in
theorem c_ST_needVariantOrNone (σ : SC) (π : PJ) (x0 : Int32) (RES : Unit) (hR : m_ST_needVariantOrNone σ x0 = some RES) : CM l y_ST_needVariantOrNone b_ST_needVariantOrNone 2 (none) { frames := 4, cells := 0, slots := 0, locals := 83 } D (tyL cI cL cQ) N0 N1 [.ref (G 0 0), .int x0] (wsC G cI cL cQ σ π rest) (none) (fun w => w = wsC G cI cL cQ σ π rest) 0 0 := by
  refine met_of (own := R_ST) (by decide) rfl nwl_ok ?_
  intro p e s m below meth c hC hin hB
  have hx := hC.1
  have hb := hC.2.1
  have hl := lv_entry ([.ref (G 0 0), .int x0]) (n := 2) (Nat.le_of_ble_eq_true rfl)
  rw [lg_entry_eq]
  generalize (lg_sl ([.ref (G 0 0), .int x0]) ++ List.replicate (2 - (lg_sl ([.ref (G 0 0), .int x0])).length) Slot.unset).toArray = ls at hl ⊢
  have hl : lv_has ls 2 [(0, .ref (G 0 0)), (1, .int x0)] := hl
  rw [m_ST_needVariantOrNone] at hR
  refine lv_iload_n hx hb d_ST_needVariantOrNone_0 rfl (lv_at hl 1 rfl) ?_
  refine lv_iconst (v := (-1)) hx hb d_ST_needVariantOrNone_1 (by decide) ?_
  refine lv_icmp_eq (tgt := 10) hx hb d_ST_needVariantOrNone_2 (by decide) (fun c_1 => ?_) (fun c_1 => ?_)
  · rw [if_pos c_1] at hR
    obtain rfl := Option.some.inj hR
    exact rv hC hB rfl d_ST_needVariantOrNone_10
  · rw [if_neg c_1] at hR
    refine lv_aload_n hx hb d_ST_needVariantOrNone_5 rfl (lv_at hl 0 rfl) ?_
    refine lv_iload_n hx hb d_ST_needVariantOrNone_6 rfl (lv_at hl 1 rfl) ?_
    obtain ⟨u_2, hq_2⟩ : ∃ z, m_ST_needVariant σ x0 = some z := by
      cases hz : m_ST_needVariant σ x0 with
      | none => rw [hz] at hR; cases hR
      | some z => exact ⟨z, rfl⟩
    rw [hq_2] at hR
    dsimp only at hR
    refine kV hC hB _ lkC_ST rfl (c_ST_needVariant σ π x0 u_2 hq_2) allw_ok mf_ST_needVariant kw_728 ks_20 kw_726 ⟨rfl, rfl, Nat.le_of_ble_eq_true rfl, Nat.le_of_ble_eq_true rfl⟩ rfl rfl hl.1 (Nat.le_of_ble_eq_true rfl) d_ST_needVariantOrNone_7 ⟨Nat.le_of_ble_eq_true rfl, Nat.le_of_ble_eq_true rfl⟩ (roK fun H locs hB => ?_)
    obtain rfl := Option.some.inj hR
    exact rv hC hB rfl d_ST_needVariantOrNone_10

set_option maxHeartbeats 400000 in
set_option maxRecDepth 100000 in
theorem x_ST_needVariantOrNone (htl : l.stackTraces = false) (σ : SC) (π : PJ) (x0 : Int32) (hR : m_ST_needVariantOrNone σ x0 = none) : MX l y_ST_needVariantOrNone b_ST_needVariantOrNone 2 (none) { frames := 7, cells := 1, slots := 6, locals := 111 } D classes (tyL cI cL cQ) NWL ALLW N0 N1 [.ref (G 0 0), .int x0] (wsC G cI cL cQ σ π rest) "java/lang/IndexOutOfBoundsException" 1 6 := by
  refine mx_of (own := R_ST) (by decide) rfl nwl_ok ?_
  intro p e s m below meth c hC hex hSW hB
  have hB0 := hB
  have hx := hC.1
  have hb := hC.2.1
  have hl := lv_entry ([.ref (G 0 0), .int x0]) (n := 2) (Nat.le_of_ble_eq_true rfl)
  rw [lg_entry_eq]
  generalize (lg_sl ([.ref (G 0 0), .int x0]) ++ List.replicate (2 - (lg_sl ([.ref (G 0 0), .int x0])).length) Slot.unset).toArray = ls at hl ⊢
  have hl : lv_has ls 2 [(0, .ref (G 0 0)), (1, .int x0)] := hl
  rw [m_ST_needVariantOrNone] at hR
  refine lv_iload_n hx hb d_ST_needVariantOrNone_0 rfl (lv_at hl 1 rfl) ?_
  refine lv_iconst (v := (-1)) hx hb d_ST_needVariantOrNone_1 (by decide) ?_
  refine lv_icmp_eq (tgt := 10) hx hb d_ST_needVariantOrNone_2 (by decide) (fun c_1 => ?_) (fun c_1 => ?_)
  · rw [if_pos c_1] at hR
    cases hR
  · rw [if_neg c_1] at hR
    refine lv_aload_n hx hb d_ST_needVariantOrNone_5 rfl (lv_at hl 0 rfl) ?_
    refine lv_iload_n hx hb d_ST_needVariantOrNone_6 rfl (lv_at hl 1 rfl) ?_
    rcases hq_2 : m_ST_needVariant σ x0 with _ | u_2
    · refine kx hC hSW hB _ lkC_ST rfl (x_ST_needVariant htl σ π x0 hq_2) allw_ok mf_ST_needVariant kw_728 ks_20 kw_726 ⟨rfl, rfl, Nat.le_of_ble_eq_true rfl, Nat.le_of_ble_eq_true rfl⟩ rfl rfl hl.1 (Nat.le_of_ble_eq_true rfl) d_ST_needVariantOrNone_7 ⟨Nat.le_of_ble_eq_true rfl, Nat.le_of_ble_eq_true rfl⟩ (fun q ce H locs hB h1 h2 h3 => ?_)
      exact tx_out hC hB (by rw [hex]; intro x hx; cases hx) h1 h2 h3 (Nat.le_of_ble_eq_true rfl) (Nat.le_of_ble_eq_true rfl)
    rw [hq_2] at hR
    dsimp only at hR
    refine kV hC hB _ lkC_ST rfl (c_ST_needVariant σ π x0 u_2 hq_2) allw_ok mf_ST_needVariant kw_728 ks_20 kw_726 ⟨rfl, rfl, Nat.le_of_ble_eq_true rfl, Nat.le_of_ble_eq_true rfl⟩ rfl rfl hl.1 (Nat.le_of_ble_eq_true rfl) d_ST_needVariantOrNone_7 ⟨Nat.le_of_ble_eq_true rfl, Nat.le_of_ble_eq_true rfl⟩ (roK fun H locs hB => ?_)
    cases hR
end SC
