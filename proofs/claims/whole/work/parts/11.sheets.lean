def m_Sheets_sheetCount (σ : SC) : Int32 :=
  (m_Row_at σ 0 0)

def m_Sheets_placementsLeft (σ : SC) : Int32 :=
  (60 - (m_Row_at σ 0 1))

def m_Sheets_isSheet (σ : SC) (x0 : Int32) : Bool :=
  if x0 < 0 then
    false
  else
    if (m_Sheets_sheetCount σ) ≤ x0 then
      false
    else
      true

def m_Sheets_parentOf (σ : SC) (x0 : Int32) : Int32 :=
  (m_Row_at σ 3 x0)

def m_Sheets_isPlacement (σ : SC) (x0 : Int32) : Bool :=
  if (m_Sheets_parentOf σ x0) = (-1) then
    false
  else
    true

def m_Sheets_sheetOf (σ : SC) (x0 : Int32) : Int32 :=
  (m_Row_at σ 2 x0)

def m_Sheets_headOf (σ : SC) (x0 : Int32) : Int32 :=
  (60 + x0)

def m_Sheets_firstOn (σ : SC) (x0 : Int32) : Int32 :=
  (m_Row_at σ 4 (m_Sheets_headOf σ x0))

def m_Sheets_nextOf (σ : SC) (x0 : Int32) : Int32 :=
  (m_Row_at σ 4 x0)

def m_Sheets_tells (σ : SC) (x0 : Int32) (x1 : Int32) : Bool :=
  (m_ST_holdsName (m_Row_at σ 1 x0) x1)

def m_Sheets_jointOf (σ : SC) (x0 : Int32) (x1 : Int32) : Int32 :=
  (m_Row_at σ 5 ((x0 * 32) + x1))

def lp_Sheets_placementsOn_8 : Nat → SC → Int32 → Int32 → Int32 → Int32
  | 0, σ, _, _, _ => 0
  | n + 1, σ, v1, v2, v3 =>
    if v3 = (-1) then
      v2
    else
      if 60 ≤ v2 then
        v2
      else
        lp_Sheets_placementsOn_8 n σ v1 (v2 + 1) (m_Sheets_nextOf σ v3)

def m_Sheets_placementsOn (σ : SC) (x0 : Int32) : Int32 :=
  lp_Sheets_placementsOn_8 ((60 : Int32).toNatClampNeg + 1) σ x0 0 (m_Sheets_firstOn σ x0)

def lp_Sheets_withPlacedOn_4 : Nat → SC → Int32 → Int32 → Int32 → Int32
  | 0, σ, _, _, _ => 0
  | n + 1, σ, v1, v2, v3 =>
    if 60 ≤ v3 then
      v2
    else
      if (bi (m_Sheets_isPlacement σ v3)) = 0 then
        lp_Sheets_withPlacedOn_4 n σ v1 v2 (v3 + 1)
      else
        if (v2 &&& (1 <<< ((m_Sheets_parentOf σ v3) &&& 31))) = 0 then
          lp_Sheets_withPlacedOn_4 n σ v1 v2 (v3 + 1)
        else
          lp_Sheets_withPlacedOn_4 n σ v1 (v2 ||| (1 <<< ((m_Sheets_sheetOf σ v3) &&& 31))) (v3 + 1)

def m_Sheets_withPlacedOn (σ : SC) (x0 : Int32) : Int32 :=
  lp_Sheets_withPlacedOn_4 ((60 : Int32).toNatClampNeg + 1) σ x0 x0 0

def lp_Sheets_holds_10 : Nat → SC → Int32 → Int32 → Int32 → Int32 → Int32 → Bool
  | 0, σ, _, _, _, _, _ => false
  | n + 1, σ, v1, v2, v3, v4, v5 =>
    if 24 ≤ v5 then
      if (v3 &&& (1 <<< (v2 &&& 31))) = 0 then
        false
      else
        true
    else
      if v3 = v4 then
        if (v3 &&& (1 <<< (v2 &&& 31))) = 0 then
          false
        else
          true
      else
        lp_Sheets_holds_10 n σ v1 v2 (m_Sheets_withPlacedOn σ v3) v3 (v5 + 1)

def m_Sheets_holds (σ : SC) (x0 : Int32) (x1 : Int32) : Bool :=
  lp_Sheets_holds_10 ((24 : Int32).toNatClampNeg + 1) σ x0 x1 (1 <<< (x0 &&& 31)) 0 0

def lp_Sheets_cellBefore_9 : Nat → SC → Int32 → Int32 → Int32 → Int32 → Int32
  | 0, σ, _, _, _, _ => 0
  | n + 1, σ, v1, v2, v3, v4 =>
    if 60 ≤ v4 then
      v3
    else
      if (m_Row_at σ 4 v3) = v2 then
        v3
      else
        lp_Sheets_cellBefore_9 n σ v1 v2 (m_Row_at σ 4 v3) (v4 + 1)

def m_Sheets_cellBefore (σ : SC) (x0 : Int32) (x1 : Int32) : Int32 :=
  lp_Sheets_cellBefore_9 ((60 : Int32).toNatClampNeg + 1) σ x0 x1 (m_Sheets_headOf σ x0) 0

section SC
variable {l : Launch} {D : va_G} {N0 N1 : Nat} {G : Nat → Nat → Nat} {cI cL cQ : ClassId} {rest : va_W}
set_option maxHeartbeats 400000 in
set_option maxRecDepth 100000 in
theorem c_Sheets_sheetCount  (σ : SC) (π : PJ)  : CM l y_Sheets_sheetCount b_Sheets_sheetCount 1 (some .int) { frames := 1, cells := 0, slots := 0, locals := 21 } D (tyL cI cL cQ) N0 N1 [.ref (G 0 3)] (wsC G cI cL cQ σ π rest) (some (.int (m_Sheets_sheetCount σ))) (fun w => w = wsC G cI cL cQ σ π rest) 0 0 := by
  generalize hR : m_Sheets_sheetCount σ = RES
  refine met_of (own := R_Sheets) (by decide) rfl nwl_ok ?_
  intro p e s m below meth c hC hin hB
  have hx := hC.1
  have hb := hC.2.1
  have hl := lv_entry ([.ref (G 0 3)]) (n := 1) (Nat.le_of_ble_eq_true rfl)
  rw [lg_entry_eq]
  generalize (lg_sl ([.ref (G 0 3)]) ++ List.replicate (1 - (lg_sl ([.ref (G 0 3)])).length) Slot.unset).toArray = ls at hl ⊢
  have hl : lv_has ls 1 [(0, .ref (G 0 3))] := hl
  rw [m_Sheets_sheetCount] at hR
  refine lv_aload_n hx hb d_Sheets_sheetCount_0 rfl (lv_at hl 0 rfl) ?_
  refine gt hC hB _ lkC_Sheets rfl i_Sheets 0 (by decide) rfl kw_80 rfl d_Sheets_sheetCount_1 ?_
  refine lv_iconst (v := 0) hx hb d_Sheets_sheetCount_4 (by decide) ?_
  refine kV hC hB _ (lkC_row (by decide)) rfl (c_Row_at 0 (by decide) σ π 0) allw_ok mf_Row_at kw_233 kw_234 kw_232 ⟨rfl, rfl, Nat.le_of_ble_eq_true rfl, Nat.le_of_ble_eq_true rfl⟩ rfl rfl hl.1 (Nat.le_of_ble_eq_true rfl) d_Sheets_sheetCount_5 ⟨Nat.le_of_ble_eq_true rfl, Nat.le_of_ble_eq_true rfl⟩ (roK fun H locs hB => ?_)
  subst hR
  exact ri hC hB rfl d_Sheets_sheetCount_8

set_option maxHeartbeats 400000 in
set_option maxRecDepth 100000 in
theorem c_Sheets_placementsLeft  (σ : SC) (π : PJ)  : CM l y_Sheets_placementsLeft b_Sheets_placementsLeft 1 (some .int) { frames := 1, cells := 0, slots := 0, locals := 21 } D (tyL cI cL cQ) N0 N1 [.ref (G 0 3)] (wsC G cI cL cQ σ π rest) (some (.int (m_Sheets_placementsLeft σ))) (fun w => w = wsC G cI cL cQ σ π rest) 0 0 := by
  generalize hR : m_Sheets_placementsLeft σ = RES
  refine met_of (own := R_Sheets) (by decide) rfl nwl_ok ?_
  intro p e s m below meth c hC hin hB
  have hx := hC.1
  have hb := hC.2.1
  have hl := lv_entry ([.ref (G 0 3)]) (n := 1) (Nat.le_of_ble_eq_true rfl)
  rw [lg_entry_eq]
  generalize (lg_sl ([.ref (G 0 3)]) ++ List.replicate (1 - (lg_sl ([.ref (G 0 3)])).length) Slot.unset).toArray = ls at hl ⊢
  have hl : lv_has ls 1 [(0, .ref (G 0 3))] := hl
  rw [m_Sheets_placementsLeft] at hR
  refine lv_bipush (v := 60) hx hb d_Sheets_placementsLeft_0 (by decide) ?_
  refine lv_aload_n hx hb d_Sheets_placementsLeft_2 rfl (lv_at hl 0 rfl) ?_
  refine gt hC hB _ lkC_Sheets rfl i_Sheets 0 (by decide) rfl kw_80 rfl d_Sheets_placementsLeft_3 ?_
  refine lv_iconst (v := 1) hx hb d_Sheets_placementsLeft_6 (by decide) ?_
  refine kV hC hB _ (lkC_row (by decide)) rfl (c_Row_at 0 (by decide) σ π 1) allw_ok mf_Row_at kw_233 kw_234 kw_232 ⟨rfl, rfl, Nat.le_of_ble_eq_true rfl, Nat.le_of_ble_eq_true rfl⟩ rfl rfl hl.1 (Nat.le_of_ble_eq_true rfl) d_Sheets_placementsLeft_7 ⟨Nat.le_of_ble_eq_true rfl, Nat.le_of_ble_eq_true rfl⟩ (roK fun H locs hB => ?_)
  refine lv_isub hx hb d_Sheets_placementsLeft_10 ?_
  subst hR
  exact ri hC hB rfl d_Sheets_placementsLeft_11

set_option maxHeartbeats 400000 in
set_option maxRecDepth 100000 in
theorem c_Sheets_isSheet  (σ : SC) (π : PJ) (x0 : Int32) : CM l y_Sheets_isSheet b_Sheets_isSheet 2 (some .boolean) { frames := 2, cells := 0, slots := 0, locals := 41 } D (tyL cI cL cQ) N0 N1 [.ref (G 0 3), .int x0] (wsC G cI cL cQ σ π rest) (some (.int (bi (m_Sheets_isSheet σ x0)))) (fun w => w = wsC G cI cL cQ σ π rest) 0 0 := by
  generalize hR : m_Sheets_isSheet σ x0 = RES
  refine met_of (own := R_Sheets) (by decide) rfl nwl_ok ?_
  intro p e s m below meth c hC hin hB
  have hx := hC.1
  have hb := hC.2.1
  have hl := lv_entry ([.ref (G 0 3), .int x0]) (n := 2) (Nat.le_of_ble_eq_true rfl)
  rw [lg_entry_eq]
  generalize (lg_sl ([.ref (G 0 3), .int x0]) ++ List.replicate (2 - (lg_sl ([.ref (G 0 3), .int x0])).length) Slot.unset).toArray = ls at hl ⊢
  have hl : lv_has ls 2 [(0, .ref (G 0 3)), (1, .int x0)] := hl
  rw [m_Sheets_isSheet] at hR
  refine lv_iload_n hx hb d_Sheets_isSheet_0 rfl (lv_at hl 1 rfl) ?_
  refine lv_if_lt (tgt := 16) hx hb d_Sheets_isSheet_1 (by decide) (fun c_1 => ?_) (fun c_1 => ?_)
  · rw [if_pos c_1] at hR
    refine lv_iconst (v := 0) hx hb d_Sheets_isSheet_16 (by decide) ?_
    subst hR
    exact rz (b := false) hC hB rfl d_Sheets_isSheet_17
  · rw [if_neg c_1] at hR
    refine lv_iload_n hx hb d_Sheets_isSheet_4 rfl (lv_at hl 1 rfl) ?_
    refine lv_aload_n hx hb d_Sheets_isSheet_5 rfl (lv_at hl 0 rfl) ?_
    refine kV hC hB _ lkC_Sheets rfl (c_Sheets_sheetCount σ π) allw_ok mf_Sheets_sheetCount kw_283 kw_284 kw_290 ⟨rfl, rfl, Nat.le_of_ble_eq_true rfl, Nat.le_of_ble_eq_true rfl⟩ rfl rfl hl.1 (Nat.le_of_ble_eq_true rfl) d_Sheets_isSheet_6 ⟨Nat.le_of_ble_eq_true rfl, Nat.le_of_ble_eq_true rfl⟩ (roK fun H locs hB => ?_)
    refine lv_icmp_ge (tgt := 16) hx hb d_Sheets_isSheet_9 (by decide) (fun c_2 => ?_) (fun c_2 => ?_)
    · rw [if_pos c_2] at hR
      refine lv_iconst (v := 0) hx hb d_Sheets_isSheet_16 (by decide) ?_
      subst hR
      exact rz (b := false) hC hB rfl d_Sheets_isSheet_17
    · rw [if_neg c_2] at hR
      refine lv_iconst (v := 1) hx hb d_Sheets_isSheet_12 (by decide) ?_
      refine lv_goto (tgt := 17) hx hb d_Sheets_isSheet_13 (by decide) ?_
      subst hR
      exact rz (b := true) hC hB rfl d_Sheets_isSheet_17

set_option maxHeartbeats 400000 in
set_option maxRecDepth 100000 in
theorem c_Sheets_parentOf  (σ : SC) (π : PJ) (x0 : Int32) : CM l y_Sheets_parentOf b_Sheets_parentOf 2 (some .int) { frames := 1, cells := 0, slots := 0, locals := 21 } D (tyL cI cL cQ) N0 N1 [.ref (G 0 3), .int x0] (wsC G cI cL cQ σ π rest) (some (.int (m_Sheets_parentOf σ x0))) (fun w => w = wsC G cI cL cQ σ π rest) 0 0 := by
  generalize hR : m_Sheets_parentOf σ x0 = RES
  refine met_of (own := R_Sheets) (by decide) rfl nwl_ok ?_
  intro p e s m below meth c hC hin hB
  have hx := hC.1
  have hb := hC.2.1
  have hl := lv_entry ([.ref (G 0 3), .int x0]) (n := 2) (Nat.le_of_ble_eq_true rfl)
  rw [lg_entry_eq]
  generalize (lg_sl ([.ref (G 0 3), .int x0]) ++ List.replicate (2 - (lg_sl ([.ref (G 0 3), .int x0])).length) Slot.unset).toArray = ls at hl ⊢
  have hl : lv_has ls 2 [(0, .ref (G 0 3)), (1, .int x0)] := hl
  rw [m_Sheets_parentOf] at hR
  refine lv_aload_n hx hb d_Sheets_parentOf_0 rfl (lv_at hl 0 rfl) ?_
  refine gt hC hB _ lkC_Sheets rfl i_Sheets 3 (by decide) rfl kw_83 rfl d_Sheets_parentOf_1 ?_
  refine lv_iload_n hx hb d_Sheets_parentOf_4 rfl (lv_at hl 1 rfl) ?_
  refine kV hC hB _ (lkC_row (by decide)) rfl (c_Row_at 3 (by decide) σ π x0) allw_ok mf_Row_at kw_233 kw_234 kw_232 ⟨rfl, rfl, Nat.le_of_ble_eq_true rfl, Nat.le_of_ble_eq_true rfl⟩ rfl rfl hl.1 (Nat.le_of_ble_eq_true rfl) d_Sheets_parentOf_5 ⟨Nat.le_of_ble_eq_true rfl, Nat.le_of_ble_eq_true rfl⟩ (roK fun H locs hB => ?_)
  subst hR
  exact ri hC hB rfl d_Sheets_parentOf_8

set_option maxHeartbeats 400000 in
set_option maxRecDepth 100000 in
theorem c_Sheets_isPlacement  (σ : SC) (π : PJ) (x0 : Int32) : CM l y_Sheets_isPlacement b_Sheets_isPlacement 2 (some .boolean) { frames := 2, cells := 0, slots := 0, locals := 42 } D (tyL cI cL cQ) N0 N1 [.ref (G 0 3), .int x0] (wsC G cI cL cQ σ π rest) (some (.int (bi (m_Sheets_isPlacement σ x0)))) (fun w => w = wsC G cI cL cQ σ π rest) 0 0 := by
  generalize hR : m_Sheets_isPlacement σ x0 = RES
  refine met_of (own := R_Sheets) (by decide) rfl nwl_ok ?_
  intro p e s m below meth c hC hin hB
  have hx := hC.1
  have hb := hC.2.1
  have hl := lv_entry ([.ref (G 0 3), .int x0]) (n := 2) (Nat.le_of_ble_eq_true rfl)
  rw [lg_entry_eq]
  generalize (lg_sl ([.ref (G 0 3), .int x0]) ++ List.replicate (2 - (lg_sl ([.ref (G 0 3), .int x0])).length) Slot.unset).toArray = ls at hl ⊢
  have hl : lv_has ls 2 [(0, .ref (G 0 3)), (1, .int x0)] := hl
  rw [m_Sheets_isPlacement] at hR
  refine lv_aload_n hx hb d_Sheets_isPlacement_0 rfl (lv_at hl 0 rfl) ?_
  refine lv_iload_n hx hb d_Sheets_isPlacement_1 rfl (lv_at hl 1 rfl) ?_
  refine kV hC hB _ lkC_Sheets rfl (c_Sheets_parentOf σ π x0) allw_ok mf_Sheets_parentOf kw_479 kw_480 kw_478 ⟨rfl, rfl, Nat.le_of_ble_eq_true rfl, Nat.le_of_ble_eq_true rfl⟩ rfl rfl hl.1 (Nat.le_of_ble_eq_true rfl) d_Sheets_isPlacement_2 ⟨Nat.le_of_ble_eq_true rfl, Nat.le_of_ble_eq_true rfl⟩ (roK fun H locs hB => ?_)
  refine lv_iconst (v := (-1)) hx hb d_Sheets_isPlacement_5 (by decide) ?_
  refine lv_icmp_eq (tgt := 13) hx hb d_Sheets_isPlacement_6 (by decide) (fun c_1 => ?_) (fun c_1 => ?_)
  · rw [if_pos c_1] at hR
    refine lv_iconst (v := 0) hx hb d_Sheets_isPlacement_13 (by decide) ?_
    subst hR
    exact rz (b := false) hC hB rfl d_Sheets_isPlacement_14
  · rw [if_neg c_1] at hR
    refine lv_iconst (v := 1) hx hb d_Sheets_isPlacement_9 (by decide) ?_
    refine lv_goto (tgt := 14) hx hb d_Sheets_isPlacement_10 (by decide) ?_
    subst hR
    exact rz (b := true) hC hB rfl d_Sheets_isPlacement_14

set_option maxHeartbeats 400000 in
set_option maxRecDepth 100000 in
theorem c_Sheets_sheetOf  (σ : SC) (π : PJ) (x0 : Int32) : CM l y_Sheets_sheetOf b_Sheets_sheetOf 2 (some .int) { frames := 1, cells := 0, slots := 0, locals := 21 } D (tyL cI cL cQ) N0 N1 [.ref (G 0 3), .int x0] (wsC G cI cL cQ σ π rest) (some (.int (m_Sheets_sheetOf σ x0))) (fun w => w = wsC G cI cL cQ σ π rest) 0 0 := by
  generalize hR : m_Sheets_sheetOf σ x0 = RES
  refine met_of (own := R_Sheets) (by decide) rfl nwl_ok ?_
  intro p e s m below meth c hC hin hB
  have hx := hC.1
  have hb := hC.2.1
  have hl := lv_entry ([.ref (G 0 3), .int x0]) (n := 2) (Nat.le_of_ble_eq_true rfl)
  rw [lg_entry_eq]
  generalize (lg_sl ([.ref (G 0 3), .int x0]) ++ List.replicate (2 - (lg_sl ([.ref (G 0 3), .int x0])).length) Slot.unset).toArray = ls at hl ⊢
  have hl : lv_has ls 2 [(0, .ref (G 0 3)), (1, .int x0)] := hl
  rw [m_Sheets_sheetOf] at hR
  refine lv_aload_n hx hb d_Sheets_sheetOf_0 rfl (lv_at hl 0 rfl) ?_
  refine gt hC hB _ lkC_Sheets rfl i_Sheets 2 (by decide) rfl kw_82 rfl d_Sheets_sheetOf_1 ?_
  refine lv_iload_n hx hb d_Sheets_sheetOf_4 rfl (lv_at hl 1 rfl) ?_
  refine kV hC hB _ (lkC_row (by decide)) rfl (c_Row_at 2 (by decide) σ π x0) allw_ok mf_Row_at kw_233 kw_234 kw_232 ⟨rfl, rfl, Nat.le_of_ble_eq_true rfl, Nat.le_of_ble_eq_true rfl⟩ rfl rfl hl.1 (Nat.le_of_ble_eq_true rfl) d_Sheets_sheetOf_5 ⟨Nat.le_of_ble_eq_true rfl, Nat.le_of_ble_eq_true rfl⟩ (roK fun H locs hB => ?_)
  subst hR
  exact ri hC hB rfl d_Sheets_sheetOf_8

set_option maxHeartbeats 400000 in
set_option maxRecDepth 100000 in
theorem c_Sheets_headOf  (σ : SC) (π : PJ) (x0 : Int32) : CM l y_Sheets_headOf b_Sheets_headOf 2 (some .int) { frames := 0, cells := 0, slots := 0, locals := 0 } D (tyL cI cL cQ) N0 N1 [.ref (G 0 3), .int x0] (wsC G cI cL cQ σ π rest) (some (.int (m_Sheets_headOf σ x0))) (fun w => w = wsC G cI cL cQ σ π rest) 0 0 := by
  generalize hR : m_Sheets_headOf σ x0 = RES
  refine met_of (own := R_Sheets) (by decide) rfl nwl_ok ?_
  intro p e s m below meth c hC hin hB
  have hx := hC.1
  have hb := hC.2.1
  have hl := lv_entry ([.ref (G 0 3), .int x0]) (n := 2) (Nat.le_of_ble_eq_true rfl)
  rw [lg_entry_eq]
  generalize (lg_sl ([.ref (G 0 3), .int x0]) ++ List.replicate (2 - (lg_sl ([.ref (G 0 3), .int x0])).length) Slot.unset).toArray = ls at hl ⊢
  have hl : lv_has ls 2 [(0, .ref (G 0 3)), (1, .int x0)] := hl
  rw [m_Sheets_headOf] at hR
  refine lv_bipush (v := 60) hx hb d_Sheets_headOf_0 (by decide) ?_
  refine lv_iload_n hx hb d_Sheets_headOf_2 rfl (lv_at hl 1 rfl) ?_
  refine lv_iadd hx hb d_Sheets_headOf_3 ?_
  subst hR
  exact ri hC hB rfl d_Sheets_headOf_4

set_option maxHeartbeats 400000 in
set_option maxRecDepth 100000 in
theorem c_Sheets_firstOn  (σ : SC) (π : PJ) (x0 : Int32) : CM l y_Sheets_firstOn b_Sheets_firstOn 2 (some .int) { frames := 1, cells := 0, slots := 0, locals := 21 } D (tyL cI cL cQ) N0 N1 [.ref (G 0 3), .int x0] (wsC G cI cL cQ σ π rest) (some (.int (m_Sheets_firstOn σ x0))) (fun w => w = wsC G cI cL cQ σ π rest) 0 0 := by
  generalize hR : m_Sheets_firstOn σ x0 = RES
  refine met_of (own := R_Sheets) (by decide) rfl nwl_ok ?_
  intro p e s m below meth c hC hin hB
  have hx := hC.1
  have hb := hC.2.1
  have hl := lv_entry ([.ref (G 0 3), .int x0]) (n := 2) (Nat.le_of_ble_eq_true rfl)
  rw [lg_entry_eq]
  generalize (lg_sl ([.ref (G 0 3), .int x0]) ++ List.replicate (2 - (lg_sl ([.ref (G 0 3), .int x0])).length) Slot.unset).toArray = ls at hl ⊢
  have hl : lv_has ls 2 [(0, .ref (G 0 3)), (1, .int x0)] := hl
  rw [m_Sheets_firstOn] at hR
  refine lv_aload_n hx hb d_Sheets_firstOn_0 rfl (lv_at hl 0 rfl) ?_
  refine gt hC hB _ lkC_Sheets rfl i_Sheets 4 (by decide) rfl kw_84 rfl d_Sheets_firstOn_1 ?_
  refine lv_aload_n hx hb d_Sheets_firstOn_4 rfl (lv_at hl 0 rfl) ?_
  refine lv_iload_n hx hb d_Sheets_firstOn_5 rfl (lv_at hl 1 rfl) ?_
  refine kV hC hB _ lkC_Sheets rfl (c_Sheets_headOf σ π x0) allw_ok mf_Sheets_headOf kw_230 ks_1 kw_228 ⟨rfl, rfl, Nat.le_of_ble_eq_true rfl, Nat.le_of_ble_eq_true rfl⟩ rfl rfl hl.1 (Nat.le_of_ble_eq_true rfl) d_Sheets_firstOn_6 ⟨Nat.le_of_ble_eq_true rfl, Nat.le_of_ble_eq_true rfl⟩ (roK fun H locs hB => ?_)
  refine kV hC hB _ (lkC_row (by decide)) rfl (c_Row_at 4 (by decide) σ π (m_Sheets_headOf σ x0)) allw_ok mf_Row_at kw_233 kw_234 kw_232 ⟨rfl, rfl, Nat.le_of_ble_eq_true rfl, Nat.le_of_ble_eq_true rfl⟩ rfl rfl hl.1 (Nat.le_of_ble_eq_true rfl) d_Sheets_firstOn_9 ⟨Nat.le_of_ble_eq_true rfl, Nat.le_of_ble_eq_true rfl⟩ (roK fun H locs hB => ?_)
  subst hR
  exact ri hC hB rfl d_Sheets_firstOn_12

set_option maxHeartbeats 400000 in
set_option maxRecDepth 100000 in
theorem c_Sheets_nextOf  (σ : SC) (π : PJ) (x0 : Int32) : CM l y_Sheets_nextOf b_Sheets_nextOf 2 (some .int) { frames := 1, cells := 0, slots := 0, locals := 21 } D (tyL cI cL cQ) N0 N1 [.ref (G 0 3), .int x0] (wsC G cI cL cQ σ π rest) (some (.int (m_Sheets_nextOf σ x0))) (fun w => w = wsC G cI cL cQ σ π rest) 0 0 := by
  generalize hR : m_Sheets_nextOf σ x0 = RES
  refine met_of (own := R_Sheets) (by decide) rfl nwl_ok ?_
  intro p e s m below meth c hC hin hB
  have hx := hC.1
  have hb := hC.2.1
  have hl := lv_entry ([.ref (G 0 3), .int x0]) (n := 2) (Nat.le_of_ble_eq_true rfl)
  rw [lg_entry_eq]
  generalize (lg_sl ([.ref (G 0 3), .int x0]) ++ List.replicate (2 - (lg_sl ([.ref (G 0 3), .int x0])).length) Slot.unset).toArray = ls at hl ⊢
  have hl : lv_has ls 2 [(0, .ref (G 0 3)), (1, .int x0)] := hl
  rw [m_Sheets_nextOf] at hR
  refine lv_aload_n hx hb d_Sheets_nextOf_0 rfl (lv_at hl 0 rfl) ?_
  refine gt hC hB _ lkC_Sheets rfl i_Sheets 4 (by decide) rfl kw_84 rfl d_Sheets_nextOf_1 ?_
  refine lv_iload_n hx hb d_Sheets_nextOf_4 rfl (lv_at hl 1 rfl) ?_
  refine kV hC hB _ (lkC_row (by decide)) rfl (c_Row_at 4 (by decide) σ π x0) allw_ok mf_Row_at kw_233 kw_234 kw_232 ⟨rfl, rfl, Nat.le_of_ble_eq_true rfl, Nat.le_of_ble_eq_true rfl⟩ rfl rfl hl.1 (Nat.le_of_ble_eq_true rfl) d_Sheets_nextOf_5 ⟨Nat.le_of_ble_eq_true rfl, Nat.le_of_ble_eq_true rfl⟩ (roK fun H locs hB => ?_)
  subst hR
  exact ri hC hB rfl d_Sheets_nextOf_8

set_option maxHeartbeats 400000 in
set_option maxRecDepth 100000 in
theorem c_Sheets_tells  (σ : SC) (π : PJ) (x0 : Int32) (x1 : Int32) : CM l y_Sheets_tells b_Sheets_tells 3 (some .boolean) { frames := 1, cells := 0, slots := 0, locals := 21 } D (tyL cI cL cQ) N0 N1 [.ref (G 0 3), .int x0, .int x1] (wsC G cI cL cQ σ π rest) (some (.int (bi (m_Sheets_tells σ x0 x1)))) (fun w => w = wsC G cI cL cQ σ π rest) 0 0 := by
  generalize hR : m_Sheets_tells σ x0 x1 = RES
  refine met_of (own := R_Sheets) (by decide) rfl nwl_ok ?_
  intro p e s m below meth c hC hin hB
  have hx := hC.1
  have hb := hC.2.1
  have hl := lv_entry ([.ref (G 0 3), .int x0, .int x1]) (n := 3) (Nat.le_of_ble_eq_true rfl)
  rw [lg_entry_eq]
  generalize (lg_sl ([.ref (G 0 3), .int x0, .int x1]) ++ List.replicate (3 - (lg_sl ([.ref (G 0 3), .int x0, .int x1])).length) Slot.unset).toArray = ls at hl ⊢
  have hl : lv_has ls 3 [(0, .ref (G 0 3)), (1, .int x0), (2, .int x1)] := hl
  rw [m_Sheets_tells] at hR
  refine lv_aload_n hx hb d_Sheets_tells_0 rfl (lv_at hl 0 rfl) ?_
  refine gt hC hB _ lkC_Sheets rfl i_Sheets 1 (by decide) rfl kw_81 rfl d_Sheets_tells_1 ?_
  refine lv_iload_n hx hb d_Sheets_tells_4 rfl (lv_at hl 1 rfl) ?_
  refine kV hC hB _ (lkC_row (by decide)) rfl (c_Row_at 1 (by decide) σ π x0) allw_ok mf_Row_at kw_233 kw_234 kw_232 ⟨rfl, rfl, Nat.le_of_ble_eq_true rfl, Nat.le_of_ble_eq_true rfl⟩ rfl rfl hl.1 (Nat.le_of_ble_eq_true rfl) d_Sheets_tells_5 ⟨Nat.le_of_ble_eq_true rfl, Nat.le_of_ble_eq_true rfl⟩ (roK fun H locs hB => ?_)
  refine lv_iload_n hx hb d_Sheets_tells_8 rfl (lv_at hl 2 rfl) ?_
  refine kSN hC hB (c_ST_holdsName σ π (m_Row_at σ 1 x0) x1) allw_ok mf_ST_holdsName kw_352 nw_5 ⟨rfl, rfl, Nat.le_of_ble_eq_true rfl, Nat.le_of_ble_eq_true rfl⟩ rfl rfl hl.1 (Nat.le_of_ble_eq_true rfl) d_Sheets_tells_9 ⟨Nat.le_of_ble_eq_true rfl, Nat.le_of_ble_eq_true rfl⟩ (roK fun H locs hB => ?_)
  subst hR
  exact rz (b := (m_ST_holdsName (m_Row_at σ 1 x0) x1)) hC hB rfl d_Sheets_tells_12

set_option maxHeartbeats 400000 in
set_option maxRecDepth 100000 in
theorem c_Sheets_jointOf  (σ : SC) (π : PJ) (x0 : Int32) (x1 : Int32) : CM l y_Sheets_jointOf b_Sheets_jointOf 3 (some .int) { frames := 1, cells := 0, slots := 0, locals := 21 } D (tyL cI cL cQ) N0 N1 [.ref (G 0 3), .int x0, .int x1] (wsC G cI cL cQ σ π rest) (some (.int (m_Sheets_jointOf σ x0 x1))) (fun w => w = wsC G cI cL cQ σ π rest) 0 0 := by
  generalize hR : m_Sheets_jointOf σ x0 x1 = RES
  refine met_of (own := R_Sheets) (by decide) rfl nwl_ok ?_
  intro p e s m below meth c hC hin hB
  have hx := hC.1
  have hb := hC.2.1
  have hl := lv_entry ([.ref (G 0 3), .int x0, .int x1]) (n := 3) (Nat.le_of_ble_eq_true rfl)
  rw [lg_entry_eq]
  generalize (lg_sl ([.ref (G 0 3), .int x0, .int x1]) ++ List.replicate (3 - (lg_sl ([.ref (G 0 3), .int x0, .int x1])).length) Slot.unset).toArray = ls at hl ⊢
  have hl : lv_has ls 3 [(0, .ref (G 0 3)), (1, .int x0), (2, .int x1)] := hl
  rw [m_Sheets_jointOf] at hR
  refine lv_aload_n hx hb d_Sheets_jointOf_0 rfl (lv_at hl 0 rfl) ?_
  refine gt hC hB _ lkC_Sheets rfl i_Sheets 5 (by decide) rfl kw_85 rfl d_Sheets_jointOf_1 ?_
  refine lv_iload_n hx hb d_Sheets_jointOf_4 rfl (lv_at hl 1 rfl) ?_
  refine lv_bipush (v := 32) hx hb d_Sheets_jointOf_5 (by decide) ?_
  refine lv_imul hx hb d_Sheets_jointOf_7 ?_
  refine lv_iload_n hx hb d_Sheets_jointOf_8 rfl (lv_at hl 2 rfl) ?_
  refine lv_iadd hx hb d_Sheets_jointOf_9 ?_
  refine kV hC hB _ (lkC_row (by decide)) rfl (c_Row_at 5 (by decide) σ π ((x0 * 32) + x1)) allw_ok mf_Row_at kw_233 kw_234 kw_232 ⟨rfl, rfl, Nat.le_of_ble_eq_true rfl, Nat.le_of_ble_eq_true rfl⟩ rfl rfl hl.1 (Nat.le_of_ble_eq_true rfl) d_Sheets_jointOf_10 ⟨Nat.le_of_ble_eq_true rfl, Nat.le_of_ble_eq_true rfl⟩ (roK fun H locs hB => ?_)
  subst hR
  exact ri hC hB rfl d_Sheets_jointOf_13

set_option maxHeartbeats 400000 in
set_option maxRecDepth 100000 in
theorem w_Sheets_placementsOn_8 {p : Program} {e : Env} {s : State} {m : MethodId} {args : Array Value} {below : List Frame} {meth : Method} {c : Code} {RES : Int32}  (σ : SC) (π : PJ) (hC : cx D classes (tyL cI cL cQ) NWL ALLW N1 p s m args meth c b_Sheets_placementsOn 4 (some .int) R_Sheets) :
    ∀ (n : Nat) (v1 : Int32) (v2 : Int32) (v3 : Int32), upI n (60 : Int32) v2 → lp_Sheets_placementsOn_8 n σ  v1 v2 v3 = RES → ∀ (H : Heap) (locs : List Loc), bd D classes N0 N1 (wsC G cI cL cQ σ π rest) s H locs → ∀ (ls : Array Slot), lv_has ls 4 [(0, .ref (G 0 3)), (1, .int v1), (2, .int v2), (3, .int v3)] → W p l e { frames := 2, cells := 0, slots := 0, locals := 42 } s m args below meth c H locs 0 0 (MQ below (qx D classes N0 N1 (some (.int RES)) (fun w => w = wsC G cI cL cQ σ π rest)) args s 0 0 (ga N1)) (F0 m 8 ls []) := by
  have hx := hC.1
  have hb := hC.2.1
  intro n
  induction n with
  | zero =>
    intro v1 v2 v3 hI
    exact absurd hI up_zero
  | succ n ih =>
    intro v1 v2 v3 hI hR H locs hB ls hl
    rw [lp_Sheets_placementsOn_8] at hR
    refine lv_iload_n hx hb d_Sheets_placementsOn_8 rfl (lv_at hl 3 rfl) ?_
    refine lv_iconst (v := (-1)) hx hb d_Sheets_placementsOn_9 (by decide) ?_
    refine lv_icmp_eq (tgt := 31) hx hb d_Sheets_placementsOn_10 (by decide) (fun c_1 => ?_) (fun c_1 => ?_)
    · rw [if_pos c_1] at hR
      refine lv_iload_n hx hb d_Sheets_placementsOn_31 rfl (lv_at hl 2 rfl) ?_
      subst hR
      exact ri hC hB rfl d_Sheets_placementsOn_32
    · rw [if_neg c_1] at hR
      refine lv_iload_n hx hb d_Sheets_placementsOn_13 rfl (lv_at hl 2 rfl) ?_
      refine lv_bipush (v := 60) hx hb d_Sheets_placementsOn_14 (by decide) ?_
      refine lv_icmp_ge (tgt := 31) hx hb d_Sheets_placementsOn_16 (by decide) (fun c_2 => ?_) (fun c_2 => ?_)
      · rw [if_pos c_2] at hR
        refine lv_iload_n hx hb d_Sheets_placementsOn_31 rfl (lv_at hl 2 rfl) ?_
        subst hR
        exact ri hC hB rfl d_Sheets_placementsOn_32
      · rw [if_neg c_2] at hR
        refine lv_iinc (v := (v2 + 1)) (lv' := [(2, .int (v2 + 1)), (0, .ref (G 0 3)), (1, .int v1), (3, .int v3)]) hx hb d_Sheets_placementsOn_19 hl (k := 2) rfl rfl (by decide) rfl (fun ls hl => ?_)
        refine lv_aload_n hx hb d_Sheets_placementsOn_22 rfl (lv_at hl 1 rfl) ?_
        refine lv_iload_n hx hb d_Sheets_placementsOn_23 rfl (lv_at hl 3 rfl) ?_
        refine kV hC hB _ lkC_Sheets rfl (c_Sheets_nextOf σ π v3) allw_ok mf_Sheets_nextOf kw_241 kw_242 kw_525 ⟨rfl, rfl, Nat.le_of_ble_eq_true rfl, Nat.le_of_ble_eq_true rfl⟩ rfl rfl hl.1 (Nat.le_of_ble_eq_true rfl) d_Sheets_placementsOn_24 ⟨Nat.le_of_ble_eq_true rfl, Nat.le_of_ble_eq_true rfl⟩ (roK fun H locs hB => ?_)
        refine lv_istore_n (lv' := [(3, .int (m_Sheets_nextOf σ v3)), (2, .int (v2 + 1)), (0, .ref (G 0 3)), (1, .int v1)]) hx hb d_Sheets_placementsOn_27 rfl hl (by decide) rfl (fun ls hl => ?_)
        refine lv_goto (tgt := 8) hx hb d_Sheets_placementsOn_28 (by decide) ?_
        exact ih v1 (v2 + 1) (m_Sheets_nextOf σ v3) (up_step hI (by assumption)) hR _ _ hB ls (lv_sub hl [2, 3, 1, 0] rfl)

set_option maxHeartbeats 400000 in
set_option maxRecDepth 100000 in
theorem c_Sheets_placementsOn  (σ : SC) (π : PJ) (x0 : Int32) : CM l y_Sheets_placementsOn b_Sheets_placementsOn 4 (some .int) { frames := 2, cells := 0, slots := 0, locals := 42 } D (tyL cI cL cQ) N0 N1 [.ref (G 0 3), .int x0] (wsC G cI cL cQ σ π rest) (some (.int (m_Sheets_placementsOn σ x0))) (fun w => w = wsC G cI cL cQ σ π rest) 0 0 := by
  generalize hR : m_Sheets_placementsOn σ x0 = RES
  refine met_of (own := R_Sheets) (by decide) rfl nwl_ok ?_
  intro p e s m below meth c hC hin hB
  have hx := hC.1
  have hb := hC.2.1
  have hl := lv_entry ([.ref (G 0 3), .int x0]) (n := 4) (Nat.le_of_ble_eq_true rfl)
  rw [lg_entry_eq]
  generalize (lg_sl ([.ref (G 0 3), .int x0]) ++ List.replicate (4 - (lg_sl ([.ref (G 0 3), .int x0])).length) Slot.unset).toArray = ls at hl ⊢
  have hl : lv_has ls 4 [(0, .ref (G 0 3)), (1, .int x0)] := hl
  rw [m_Sheets_placementsOn] at hR
  refine lv_iconst (v := 0) hx hb d_Sheets_placementsOn_0 (by decide) ?_
  refine lv_istore_n (lv' := [(2, .int 0), (0, .ref (G 0 3)), (1, .int x0)]) hx hb d_Sheets_placementsOn_1 rfl hl (by decide) rfl (fun ls hl => ?_)
  refine lv_aload_n hx hb d_Sheets_placementsOn_2 rfl (lv_at hl 1 rfl) ?_
  refine lv_iload_n hx hb d_Sheets_placementsOn_3 rfl (lv_at hl 2 rfl) ?_
  refine kV hC hB _ lkC_Sheets rfl (c_Sheets_firstOn σ π x0) allw_ok mf_Sheets_firstOn kw_225 kw_226 kw_668 ⟨rfl, rfl, Nat.le_of_ble_eq_true rfl, Nat.le_of_ble_eq_true rfl⟩ rfl rfl hl.1 (Nat.le_of_ble_eq_true rfl) d_Sheets_placementsOn_4 ⟨Nat.le_of_ble_eq_true rfl, Nat.le_of_ble_eq_true rfl⟩ (roK fun H locs hB => ?_)
  refine lv_istore_n (lv' := [(3, .int (m_Sheets_firstOn σ x0)), (2, .int 0), (0, .ref (G 0 3)), (1, .int x0)]) hx hb d_Sheets_placementsOn_7 rfl hl (by decide) rfl (fun ls hl => ?_)
  exact w_Sheets_placementsOn_8  σ π hC ((60 : Int32).toNatClampNeg + 1) x0 0 (m_Sheets_firstOn σ x0) (up_init _) hR _ _ hB ls (lv_sub hl [2, 3, 1, 0] rfl)

set_option maxHeartbeats 400000 in
set_option maxRecDepth 100000 in
theorem w_Sheets_withPlacedOn_4 {p : Program} {e : Env} {s : State} {m : MethodId} {args : Array Value} {below : List Frame} {meth : Method} {c : Code} {RES : Int32}  (σ : SC) (π : PJ) (hC : cx D classes (tyL cI cL cQ) NWL ALLW N1 p s m args meth c b_Sheets_withPlacedOn 4 (some .int) R_Sheets) :
    ∀ (n : Nat) (v1 : Int32) (v2 : Int32) (v3 : Int32), upI n (60 : Int32) v3 → lp_Sheets_withPlacedOn_4 n σ  v1 v2 v3 = RES → ∀ (H : Heap) (locs : List Loc), bd D classes N0 N1 (wsC G cI cL cQ σ π rest) s H locs → ∀ (ls : Array Slot), lv_has ls 4 [(0, .ref (G 0 3)), (1, .int v1), (2, .int v2), (3, .int v3)] → W p l e { frames := 3, cells := 0, slots := 0, locals := 63 } s m args below meth c H locs 0 0 (MQ below (qx D classes N0 N1 (some (.int RES)) (fun w => w = wsC G cI cL cQ σ π rest)) args s 0 0 (ga N1)) (F0 m 4 ls []) := by
  have hx := hC.1
  have hb := hC.2.1
  intro n
  induction n with
  | zero =>
    intro v1 v2 v3 hI
    exact absurd hI up_zero
  | succ n ih =>
    intro v1 v2 v3 hI hR H locs hB ls hl
    rw [lp_Sheets_withPlacedOn_4] at hR
    refine lv_iload_n hx hb d_Sheets_withPlacedOn_4 rfl (lv_at hl 3 rfl) ?_
    refine lv_bipush (v := 60) hx hb d_Sheets_withPlacedOn_5 (by decide) ?_
    refine lv_icmp_ge (tgt := 46) hx hb d_Sheets_withPlacedOn_7 (by decide) (fun c_1 => ?_) (fun c_1 => ?_)
    · rw [if_pos c_1] at hR
      refine lv_iload_n hx hb d_Sheets_withPlacedOn_46 rfl (lv_at hl 2 rfl) ?_
      subst hR
      exact ri hC hB rfl d_Sheets_withPlacedOn_47
    · rw [if_neg c_1] at hR
      refine lv_aload_n hx hb d_Sheets_withPlacedOn_10 rfl (lv_at hl 0 rfl) ?_
      refine lv_iload_n hx hb d_Sheets_withPlacedOn_11 rfl (lv_at hl 3 rfl) ?_
      refine kV hC hB _ lkC_Sheets rfl (c_Sheets_isPlacement σ π v3) allw_ok mf_Sheets_isPlacement kw_475 kw_476 kw_474 ⟨rfl, rfl, Nat.le_of_ble_eq_true rfl, Nat.le_of_ble_eq_true rfl⟩ rfl rfl hl.1 (Nat.le_of_ble_eq_true rfl) d_Sheets_withPlacedOn_12 ⟨Nat.le_of_ble_eq_true rfl, Nat.le_of_ble_eq_true rfl⟩ (roK fun H locs hB => ?_)
      refine lv_if_eq (tgt := 40) hx hb d_Sheets_withPlacedOn_15 (by decide) (fun c_2 => ?_) (fun c_2 => ?_)
      · rw [if_pos c_2] at hR
        refine lv_iinc (v := (v3 + 1)) (lv' := [(3, .int (v3 + 1)), (0, .ref (G 0 3)), (1, .int v1), (2, .int v2)]) hx hb d_Sheets_withPlacedOn_40 hl (k := 3) rfl rfl (by decide) rfl (fun ls hl => ?_)
        refine lv_goto (tgt := 4) hx hb d_Sheets_withPlacedOn_43 (by decide) ?_
        exact ih v1 v2 (v3 + 1) (up_step hI (by assumption)) hR _ _ hB ls (lv_sub hl [1, 2, 3, 0] rfl)
      · rw [if_neg c_2] at hR
        refine lv_iload_n hx hb d_Sheets_withPlacedOn_18 rfl (lv_at hl 2 rfl) ?_
        refine lv_iconst (v := 1) hx hb d_Sheets_withPlacedOn_19 (by decide) ?_
        refine lv_aload_n hx hb d_Sheets_withPlacedOn_20 rfl (lv_at hl 0 rfl) ?_
        refine lv_iload_n hx hb d_Sheets_withPlacedOn_21 rfl (lv_at hl 3 rfl) ?_
        refine kV hC hB _ lkC_Sheets rfl (c_Sheets_parentOf σ π v3) allw_ok mf_Sheets_parentOf kw_479 kw_480 kw_478 ⟨rfl, rfl, Nat.le_of_ble_eq_true rfl, Nat.le_of_ble_eq_true rfl⟩ rfl rfl hl.1 (Nat.le_of_ble_eq_true rfl) d_Sheets_withPlacedOn_22 ⟨Nat.le_of_ble_eq_true rfl, Nat.le_of_ble_eq_true rfl⟩ (roK fun H locs hB => ?_)
        refine lv_ishl hx hb d_Sheets_withPlacedOn_25 ?_
        refine lv_iand hx hb d_Sheets_withPlacedOn_26 ?_
        refine lv_if_eq (tgt := 40) hx hb d_Sheets_withPlacedOn_27 (by decide) (fun c_3 => ?_) (fun c_3 => ?_)
        · rw [if_pos c_3] at hR
          refine lv_iinc (v := (v3 + 1)) (lv' := [(3, .int (v3 + 1)), (0, .ref (G 0 3)), (1, .int v1), (2, .int v2)]) hx hb d_Sheets_withPlacedOn_40 hl (k := 3) rfl rfl (by decide) rfl (fun ls hl => ?_)
          refine lv_goto (tgt := 4) hx hb d_Sheets_withPlacedOn_43 (by decide) ?_
          exact ih v1 v2 (v3 + 1) (up_step hI (by assumption)) hR _ _ hB ls (lv_sub hl [1, 2, 3, 0] rfl)
        · rw [if_neg c_3] at hR
          refine lv_iload_n hx hb d_Sheets_withPlacedOn_30 rfl (lv_at hl 2 rfl) ?_
          refine lv_iconst (v := 1) hx hb d_Sheets_withPlacedOn_31 (by decide) ?_
          refine lv_aload_n hx hb d_Sheets_withPlacedOn_32 rfl (lv_at hl 0 rfl) ?_
          refine lv_iload_n hx hb d_Sheets_withPlacedOn_33 rfl (lv_at hl 3 rfl) ?_
          refine kV hC hB _ lkC_Sheets rfl (c_Sheets_sheetOf σ π v3) allw_ok mf_Sheets_sheetOf kw_249 kw_250 kw_482 ⟨rfl, rfl, Nat.le_of_ble_eq_true rfl, Nat.le_of_ble_eq_true rfl⟩ rfl rfl hl.1 (Nat.le_of_ble_eq_true rfl) d_Sheets_withPlacedOn_34 ⟨Nat.le_of_ble_eq_true rfl, Nat.le_of_ble_eq_true rfl⟩ (roK fun H locs hB => ?_)
          refine lv_ishl hx hb d_Sheets_withPlacedOn_37 ?_
          refine lv_ior hx hb d_Sheets_withPlacedOn_38 ?_
          refine lv_istore_n (lv' := [(2, .int (v2 ||| (1 <<< ((m_Sheets_sheetOf σ v3) &&& 31)))), (0, .ref (G 0 3)), (1, .int v1), (3, .int v3)]) hx hb d_Sheets_withPlacedOn_39 rfl hl (by decide) rfl (fun ls hl => ?_)
          refine lv_iinc (v := (v3 + 1)) (lv' := [(3, .int (v3 + 1)), (2, .int (v2 ||| (1 <<< ((m_Sheets_sheetOf σ v3) &&& 31)))), (0, .ref (G 0 3)), (1, .int v1)]) hx hb d_Sheets_withPlacedOn_40 hl (k := 3) rfl rfl (by decide) rfl (fun ls hl => ?_)
          refine lv_goto (tgt := 4) hx hb d_Sheets_withPlacedOn_43 (by decide) ?_
          exact ih v1 (v2 ||| (1 <<< ((m_Sheets_sheetOf σ v3) &&& 31))) (v3 + 1) (up_step hI (by assumption)) hR _ _ hB ls (lv_sub hl [2, 3, 1, 0] rfl)

set_option maxHeartbeats 400000 in
set_option maxRecDepth 100000 in
theorem c_Sheets_withPlacedOn  (σ : SC) (π : PJ) (x0 : Int32) : CM l y_Sheets_withPlacedOn b_Sheets_withPlacedOn 4 (some .int) { frames := 3, cells := 0, slots := 0, locals := 63 } D (tyL cI cL cQ) N0 N1 [.ref (G 0 3), .int x0] (wsC G cI cL cQ σ π rest) (some (.int (m_Sheets_withPlacedOn σ x0))) (fun w => w = wsC G cI cL cQ σ π rest) 0 0 := by
  generalize hR : m_Sheets_withPlacedOn σ x0 = RES
  refine met_of (own := R_Sheets) (by decide) rfl nwl_ok ?_
  intro p e s m below meth c hC hin hB
  have hx := hC.1
  have hb := hC.2.1
  have hl := lv_entry ([.ref (G 0 3), .int x0]) (n := 4) (Nat.le_of_ble_eq_true rfl)
  rw [lg_entry_eq]
  generalize (lg_sl ([.ref (G 0 3), .int x0]) ++ List.replicate (4 - (lg_sl ([.ref (G 0 3), .int x0])).length) Slot.unset).toArray = ls at hl ⊢
  have hl : lv_has ls 4 [(0, .ref (G 0 3)), (1, .int x0)] := hl
  rw [m_Sheets_withPlacedOn] at hR
  refine lv_iload_n hx hb d_Sheets_withPlacedOn_0 rfl (lv_at hl 1 rfl) ?_
  refine lv_istore_n (lv' := [(2, .int x0), (0, .ref (G 0 3)), (1, .int x0)]) hx hb d_Sheets_withPlacedOn_1 rfl hl (by decide) rfl (fun ls hl => ?_)
  refine lv_iconst (v := 0) hx hb d_Sheets_withPlacedOn_2 (by decide) ?_
  refine lv_istore_n (lv' := [(3, .int 0), (2, .int x0), (0, .ref (G 0 3)), (1, .int x0)]) hx hb d_Sheets_withPlacedOn_3 rfl hl (by decide) rfl (fun ls hl => ?_)
  exact w_Sheets_withPlacedOn_4  σ π hC ((60 : Int32).toNatClampNeg + 1) x0 x0 0 (up_init _) hR _ _ hB ls (lv_sub hl [2, 3, 1, 0] rfl)

set_option maxHeartbeats 400000 in
set_option maxRecDepth 100000 in
theorem w_Sheets_holds_10 {p : Program} {e : Env} {s : State} {m : MethodId} {args : Array Value} {below : List Frame} {meth : Method} {c : Code} {RES : Bool}  (σ : SC) (π : PJ) (hC : cx D classes (tyL cI cL cQ) NWL ALLW N1 p s m args meth c b_Sheets_holds 6 (some .boolean) R_Sheets) :
    ∀ (n : Nat) (v1 : Int32) (v2 : Int32) (v3 : Int32) (v4 : Int32) (v5 : Int32), upI n (24 : Int32) v5 → lp_Sheets_holds_10 n σ  v1 v2 v3 v4 v5 = RES → ∀ (H : Heap) (locs : List Loc), bd D classes N0 N1 (wsC G cI cL cQ σ π rest) s H locs → ∀ (ls : Array Slot), lv_has ls 6 [(0, .ref (G 0 3)), (1, .int v1), (2, .int v2), (3, .int v3), (4, .int v4), (5, .int v5)] → W p l e { frames := 4, cells := 0, slots := 0, locals := 86 } s m args below meth c H locs 0 0 (MQ below (qx D classes N0 N1 (some (.int (bi RES))) (fun w => w = wsC G cI cL cQ σ π rest)) args s 0 0 (ga N1)) (F0 m 10 ls []) := by
  have hx := hC.1
  have hb := hC.2.1
  intro n
  induction n with
  | zero =>
    intro v1 v2 v3 v4 v5 hI
    exact absurd hI up_zero
  | succ n ih =>
    intro v1 v2 v3 v4 v5 hI hR H locs hB ls hl
    rw [lp_Sheets_holds_10] at hR
    refine lv_iload hx hb d_Sheets_holds_10 (lv_at hl 5 rfl) ?_
    refine lv_bipush (v := 24) hx hb d_Sheets_holds_12 (by decide) ?_
    refine lv_icmp_ge (tgt := 38) hx hb d_Sheets_holds_14 (by decide) (fun c_1 => ?_) (fun c_1 => ?_)
    · rw [if_pos c_1] at hR
      refine lv_iload_n hx hb d_Sheets_holds_38 rfl (lv_at hl 3 rfl) ?_
      refine lv_iconst (v := 1) hx hb d_Sheets_holds_39 (by decide) ?_
      refine lv_iload_n hx hb d_Sheets_holds_40 rfl (lv_at hl 2 rfl) ?_
      refine lv_ishl hx hb d_Sheets_holds_41 ?_
      refine lv_iand hx hb d_Sheets_holds_42 ?_
      refine lv_if_eq (tgt := 50) hx hb d_Sheets_holds_43 (by decide) (fun c_2 => ?_) (fun c_2 => ?_)
      · rw [if_pos c_2] at hR
        refine lv_iconst (v := 0) hx hb d_Sheets_holds_50 (by decide) ?_
        subst hR
        exact rz (b := false) hC hB rfl d_Sheets_holds_51
      · rw [if_neg c_2] at hR
        refine lv_iconst (v := 1) hx hb d_Sheets_holds_46 (by decide) ?_
        refine lv_goto (tgt := 51) hx hb d_Sheets_holds_47 (by decide) ?_
        subst hR
        exact rz (b := true) hC hB rfl d_Sheets_holds_51
    · rw [if_neg c_1] at hR
      refine lv_iload_n hx hb d_Sheets_holds_17 rfl (lv_at hl 3 rfl) ?_
      refine lv_iload hx hb d_Sheets_holds_18 (lv_at hl 4 rfl) ?_
      refine lv_icmp_eq (tgt := 38) hx hb d_Sheets_holds_20 (by decide) (fun c_3 => ?_) (fun c_3 => ?_)
      · rw [if_pos c_3] at hR
        refine lv_iload_n hx hb d_Sheets_holds_38 rfl (lv_at hl 3 rfl) ?_
        refine lv_iconst (v := 1) hx hb d_Sheets_holds_39 (by decide) ?_
        refine lv_iload_n hx hb d_Sheets_holds_40 rfl (lv_at hl 2 rfl) ?_
        refine lv_ishl hx hb d_Sheets_holds_41 ?_
        refine lv_iand hx hb d_Sheets_holds_42 ?_
        refine lv_if_eq (tgt := 50) hx hb d_Sheets_holds_43 (by decide) (fun c_4 => ?_) (fun c_4 => ?_)
        · rw [if_pos c_4] at hR
          refine lv_iconst (v := 0) hx hb d_Sheets_holds_50 (by decide) ?_
          subst hR
          exact rz (b := false) hC hB rfl d_Sheets_holds_51
        · rw [if_neg c_4] at hR
          refine lv_iconst (v := 1) hx hb d_Sheets_holds_46 (by decide) ?_
          refine lv_goto (tgt := 51) hx hb d_Sheets_holds_47 (by decide) ?_
          subst hR
          exact rz (b := true) hC hB rfl d_Sheets_holds_51
      · rw [if_neg c_3] at hR
        refine lv_iload_n hx hb d_Sheets_holds_23 rfl (lv_at hl 3 rfl) ?_
        refine lv_istore (lv' := [(4, .int v3), (0, .ref (G 0 3)), (1, .int v1), (2, .int v2), (3, .int v3), (5, .int v5)]) hx hb d_Sheets_holds_24 hl (by decide) rfl (fun ls hl => ?_)
        refine lv_aload_n hx hb d_Sheets_holds_26 rfl (lv_at hl 1 rfl) ?_
        refine lv_iload_n hx hb d_Sheets_holds_27 rfl (lv_at hl 4 rfl) ?_
        refine kV hC hB _ lkC_Sheets rfl (c_Sheets_withPlacedOn σ π v3) allw_ok mf_Sheets_withPlacedOn kw_472 ks_7 kw_470 ⟨rfl, rfl, Nat.le_of_ble_eq_true rfl, Nat.le_of_ble_eq_true rfl⟩ rfl rfl hl.1 (Nat.le_of_ble_eq_true rfl) d_Sheets_holds_28 ⟨Nat.le_of_ble_eq_true rfl, Nat.le_of_ble_eq_true rfl⟩ (roK fun H locs hB => ?_)
        refine lv_istore_n (lv' := [(3, .int (m_Sheets_withPlacedOn σ v3)), (4, .int v3), (0, .ref (G 0 3)), (1, .int v1), (2, .int v2), (5, .int v5)]) hx hb d_Sheets_holds_31 rfl hl (by decide) rfl (fun ls hl => ?_)
        refine lv_iinc (v := (v5 + 1)) (lv' := [(5, .int (v5 + 1)), (3, .int (m_Sheets_withPlacedOn σ v3)), (4, .int v3), (0, .ref (G 0 3)), (1, .int v1), (2, .int v2)]) hx hb d_Sheets_holds_32 hl (k := 5) rfl rfl (by decide) rfl (fun ls hl => ?_)
        refine lv_goto (tgt := 10) hx hb d_Sheets_holds_35 (by decide) ?_
        exact ih v1 v2 (m_Sheets_withPlacedOn σ v3) v3 (v5 + 1) (up_step hI (by assumption)) hR _ _ hB ls (lv_sub hl [3, 4, 5, 1, 2, 0] rfl)

set_option maxHeartbeats 400000 in
set_option maxRecDepth 100000 in
theorem c_Sheets_holds  (σ : SC) (π : PJ) (x0 : Int32) (x1 : Int32) : CM l y_Sheets_holds b_Sheets_holds 6 (some .boolean) { frames := 4, cells := 0, slots := 0, locals := 86 } D (tyL cI cL cQ) N0 N1 [.ref (G 0 3), .int x0, .int x1] (wsC G cI cL cQ σ π rest) (some (.int (bi (m_Sheets_holds σ x0 x1)))) (fun w => w = wsC G cI cL cQ σ π rest) 0 0 := by
  generalize hR : m_Sheets_holds σ x0 x1 = RES
  refine met_of (own := R_Sheets) (by decide) rfl nwl_ok ?_
  intro p e s m below meth c hC hin hB
  have hx := hC.1
  have hb := hC.2.1
  have hl := lv_entry ([.ref (G 0 3), .int x0, .int x1]) (n := 6) (Nat.le_of_ble_eq_true rfl)
  rw [lg_entry_eq]
  generalize (lg_sl ([.ref (G 0 3), .int x0, .int x1]) ++ List.replicate (6 - (lg_sl ([.ref (G 0 3), .int x0, .int x1])).length) Slot.unset).toArray = ls at hl ⊢
  have hl : lv_has ls 6 [(0, .ref (G 0 3)), (1, .int x0), (2, .int x1)] := hl
  rw [m_Sheets_holds] at hR
  refine lv_iconst (v := 1) hx hb d_Sheets_holds_0 (by decide) ?_
  refine lv_iload_n hx hb d_Sheets_holds_1 rfl (lv_at hl 1 rfl) ?_
  refine lv_ishl hx hb d_Sheets_holds_2 ?_
  refine lv_istore_n (lv' := [(3, .int (1 <<< (x0 &&& 31))), (0, .ref (G 0 3)), (1, .int x0), (2, .int x1)]) hx hb d_Sheets_holds_3 rfl hl (by decide) rfl (fun ls hl => ?_)
  refine lv_iconst (v := 0) hx hb d_Sheets_holds_4 (by decide) ?_
  refine lv_istore (lv' := [(4, .int 0), (3, .int (1 <<< (x0 &&& 31))), (0, .ref (G 0 3)), (1, .int x0), (2, .int x1)]) hx hb d_Sheets_holds_5 hl (by decide) rfl (fun ls hl => ?_)
  refine lv_iconst (v := 0) hx hb d_Sheets_holds_7 (by decide) ?_
  refine lv_istore (lv' := [(5, .int 0), (4, .int 0), (3, .int (1 <<< (x0 &&& 31))), (0, .ref (G 0 3)), (1, .int x0), (2, .int x1)]) hx hb d_Sheets_holds_8 hl (by decide) rfl (fun ls hl => ?_)
  exact w_Sheets_holds_10  σ π hC ((24 : Int32).toNatClampNeg + 1) x0 x1 (1 <<< (x0 &&& 31)) 0 0 (up_init _) hR _ _ hB ls (lv_sub hl [3, 4, 5, 2, 1, 0] rfl)

set_option maxHeartbeats 400000 in
set_option maxRecDepth 100000 in
theorem w_Sheets_cellBefore_9 {p : Program} {e : Env} {s : State} {m : MethodId} {args : Array Value} {below : List Frame} {meth : Method} {c : Code} {RES : Int32}  (σ : SC) (π : PJ) (hC : cx D classes (tyL cI cL cQ) NWL ALLW N1 p s m args meth c b_Sheets_cellBefore 5 (some .int) R_Sheets) :
    ∀ (n : Nat) (v1 : Int32) (v2 : Int32) (v3 : Int32) (v4 : Int32), upI n (60 : Int32) v4 → lp_Sheets_cellBefore_9 n σ  v1 v2 v3 v4 = RES → ∀ (H : Heap) (locs : List Loc), bd D classes N0 N1 (wsC G cI cL cQ σ π rest) s H locs → ∀ (ls : Array Slot), lv_has ls 5 [(0, .ref (G 0 3)), (1, .int v1), (2, .int v2), (3, .int v3), (4, .int v4)] → W p l e { frames := 1, cells := 0, slots := 0, locals := 21 } s m args below meth c H locs 0 0 (MQ below (qx D classes N0 N1 (some (.int RES)) (fun w => w = wsC G cI cL cQ σ π rest)) args s 0 0 (ga N1)) (F0 m 9 ls []) := by
  have hx := hC.1
  have hb := hC.2.1
  intro n
  induction n with
  | zero =>
    intro v1 v2 v3 v4 hI
    exact absurd hI up_zero
  | succ n ih =>
    intro v1 v2 v3 v4 hI hR H locs hB ls hl
    rw [lp_Sheets_cellBefore_9] at hR
    refine lv_iload hx hb d_Sheets_cellBefore_9 (lv_at hl 4 rfl) ?_
    refine lv_bipush (v := 60) hx hb d_Sheets_cellBefore_11 (by decide) ?_
    refine lv_icmp_ge (tgt := 43) hx hb d_Sheets_cellBefore_13 (by decide) (fun c_1 => ?_) (fun c_1 => ?_)
    · rw [if_pos c_1] at hR
      refine lv_iload_n hx hb d_Sheets_cellBefore_43 rfl (lv_at hl 3 rfl) ?_
      subst hR
      exact ri hC hB rfl d_Sheets_cellBefore_44
    · rw [if_neg c_1] at hR
      refine lv_aload_n hx hb d_Sheets_cellBefore_16 rfl (lv_at hl 0 rfl) ?_
      refine gt hC hB _ lkC_Sheets rfl i_Sheets 4 (by decide) rfl kw_84 rfl d_Sheets_cellBefore_17 ?_
      refine lv_iload_n hx hb d_Sheets_cellBefore_20 rfl (lv_at hl 3 rfl) ?_
      refine kV hC hB _ (lkC_row (by decide)) rfl (c_Row_at 4 (by decide) σ π v3) allw_ok mf_Row_at kw_233 kw_234 kw_232 ⟨rfl, rfl, Nat.le_of_ble_eq_true rfl, Nat.le_of_ble_eq_true rfl⟩ rfl rfl hl.1 (Nat.le_of_ble_eq_true rfl) d_Sheets_cellBefore_21 ⟨Nat.le_of_ble_eq_true rfl, Nat.le_of_ble_eq_true rfl⟩ (roK fun H locs hB => ?_)
      refine lv_iload_n hx hb d_Sheets_cellBefore_24 rfl (lv_at hl 2 rfl) ?_
      refine lv_icmp_eq (tgt := 43) hx hb d_Sheets_cellBefore_25 (by decide) (fun c_2 => ?_) (fun c_2 => ?_)
      · rw [if_pos c_2] at hR
        refine lv_iload_n hx hb d_Sheets_cellBefore_43 rfl (lv_at hl 3 rfl) ?_
        subst hR
        exact ri hC hB rfl d_Sheets_cellBefore_44
      · rw [if_neg c_2] at hR
        refine lv_aload_n hx hb d_Sheets_cellBefore_28 rfl (lv_at hl 0 rfl) ?_
        refine gt hC hB _ lkC_Sheets rfl i_Sheets 4 (by decide) rfl kw_84 rfl d_Sheets_cellBefore_29 ?_
        refine lv_iload_n hx hb d_Sheets_cellBefore_32 rfl (lv_at hl 3 rfl) ?_
        refine kV hC hB _ (lkC_row (by decide)) rfl (c_Row_at 4 (by decide) σ π v3) allw_ok mf_Row_at kw_233 kw_234 kw_232 ⟨rfl, rfl, Nat.le_of_ble_eq_true rfl, Nat.le_of_ble_eq_true rfl⟩ rfl rfl hl.1 (Nat.le_of_ble_eq_true rfl) d_Sheets_cellBefore_33 ⟨Nat.le_of_ble_eq_true rfl, Nat.le_of_ble_eq_true rfl⟩ (roK fun H locs hB => ?_)
        refine lv_istore_n (lv' := [(3, .int (m_Row_at σ 4 v3)), (0, .ref (G 0 3)), (1, .int v1), (2, .int v2), (4, .int v4)]) hx hb d_Sheets_cellBefore_36 rfl hl (by decide) rfl (fun ls hl => ?_)
        refine lv_iinc (v := (v4 + 1)) (lv' := [(4, .int (v4 + 1)), (3, .int (m_Row_at σ 4 v3)), (0, .ref (G 0 3)), (1, .int v1), (2, .int v2)]) hx hb d_Sheets_cellBefore_37 hl (k := 4) rfl rfl (by decide) rfl (fun ls hl => ?_)
        refine lv_goto (tgt := 9) hx hb d_Sheets_cellBefore_40 (by decide) ?_
        exact ih v1 v2 (m_Row_at σ 4 v3) (v4 + 1) (up_step hI (by assumption)) hR _ _ hB ls (lv_sub hl [2, 3, 4, 1, 0] rfl)

set_option maxHeartbeats 400000 in
set_option maxRecDepth 100000 in
theorem c_Sheets_cellBefore  (σ : SC) (π : PJ) (x0 : Int32) (x1 : Int32) : CM l y_Sheets_cellBefore b_Sheets_cellBefore 5 (some .int) { frames := 1, cells := 0, slots := 0, locals := 21 } D (tyL cI cL cQ) N0 N1 [.ref (G 0 3), .int x0, .int x1] (wsC G cI cL cQ σ π rest) (some (.int (m_Sheets_cellBefore σ x0 x1))) (fun w => w = wsC G cI cL cQ σ π rest) 0 0 := by
  generalize hR : m_Sheets_cellBefore σ x0 x1 = RES
  refine met_of (own := R_Sheets) (by decide) rfl nwl_ok ?_
  intro p e s m below meth c hC hin hB
  have hx := hC.1
  have hb := hC.2.1
  have hl := lv_entry ([.ref (G 0 3), .int x0, .int x1]) (n := 5) (Nat.le_of_ble_eq_true rfl)
  rw [lg_entry_eq]
  generalize (lg_sl ([.ref (G 0 3), .int x0, .int x1]) ++ List.replicate (5 - (lg_sl ([.ref (G 0 3), .int x0, .int x1])).length) Slot.unset).toArray = ls at hl ⊢
  have hl : lv_has ls 5 [(0, .ref (G 0 3)), (1, .int x0), (2, .int x1)] := hl
  rw [m_Sheets_cellBefore] at hR
  refine lv_aload_n hx hb d_Sheets_cellBefore_0 rfl (lv_at hl 0 rfl) ?_
  refine lv_iload_n hx hb d_Sheets_cellBefore_1 rfl (lv_at hl 1 rfl) ?_
  refine kV hC hB _ lkC_Sheets rfl (c_Sheets_headOf σ π x0) allw_ok mf_Sheets_headOf kw_230 ks_1 kw_228 ⟨rfl, rfl, Nat.le_of_ble_eq_true rfl, Nat.le_of_ble_eq_true rfl⟩ rfl rfl hl.1 (Nat.le_of_ble_eq_true rfl) d_Sheets_cellBefore_2 ⟨Nat.le_of_ble_eq_true rfl, Nat.le_of_ble_eq_true rfl⟩ (roK fun H locs hB => ?_)
  refine lv_istore_n (lv' := [(3, .int (m_Sheets_headOf σ x0)), (0, .ref (G 0 3)), (1, .int x0), (2, .int x1)]) hx hb d_Sheets_cellBefore_5 rfl hl (by decide) rfl (fun ls hl => ?_)
  refine lv_iconst (v := 0) hx hb d_Sheets_cellBefore_6 (by decide) ?_
  refine lv_istore (lv' := [(4, .int 0), (3, .int (m_Sheets_headOf σ x0)), (0, .ref (G 0 3)), (1, .int x0), (2, .int x1)]) hx hb d_Sheets_cellBefore_7 hl (by decide) rfl (fun ls hl => ?_)
  exact w_Sheets_cellBefore_9  σ π hC ((60 : Int32).toNatClampNeg + 1) x0 x1 (m_Sheets_headOf σ x0) 0 (up_init _) hR _ _ hB ls (lv_sub hl [2, 3, 4, 1, 0] rfl)
end SC
