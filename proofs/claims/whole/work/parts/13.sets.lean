def m_Row_set (σ : SC) (k : Nat) (x0 : Int32) (x1 : Int64) : SC :=
  if (lg_cmp (m_Row_longAt σ k x0) x1) = 0 then
    σ
  else
    (m_Row_restore (m_Journal_note σ k x0 (m_Row_longAt σ k x0)) k x0 x1)

def m_Sheets_addSheet (σ : SC) : Int32 × SC :=
  ((m_Sheets_sheetCount σ), (m_Row_set σ 0 0 (((m_Sheets_sheetCount σ) + 1).toInt64)))

def m_Sheets_setJoint (σ : SC) (x0 : Int32) (x1 : Int32) (x2 : Int32) : SC :=
  (m_Row_set σ 5 ((x0 * 32) + x1) x2.toInt64)

def m_Sheets_addName (σ : SC) (x0 : Int32) (x1 : Int32) : SC :=
  (m_Row_set σ 1 x0 (((m_Row_at σ 1 x0) ||| (1 <<< (x1 &&& 31))).toInt64))

def m_Sheets_append (σ : SC) (x0 : Int32) (x1 : Int32) : SC :=
  (m_Row_set (m_Row_set σ 3 x0 x1.toInt64) 4 (m_Sheets_cellBefore (m_Row_set σ 3 x0 x1.toInt64) x1 (-1)) x0.toInt64)

def m_Sheets_unlink (σ : SC) (x0 : Int32) : SC :=
  (m_Row_set (m_Row_set σ 4 (m_Sheets_cellBefore σ (m_Sheets_parentOf σ x0) x0) ((m_Sheets_nextOf σ x0).toInt64)) 4 x0 (-1))

def m_Sheets_takeAway (σ : SC) (x0 : Int32) : SC :=
  (m_Row_set (m_Sheets_unlink σ x0) 3 x0 (-1))

def m_Sheets_addPlacement (σ : SC) (x0 : Int32) (x1 : Int32) : Int32 × SC :=
  ((m_Row_at σ 0 1), (m_Sheets_append (m_Row_set (m_Row_set σ 0 1 (((m_Row_at σ 0 1) + 1).toInt64)) 2 (m_Row_at σ 0 1) x1.toInt64) (m_Row_at σ 0 1) x0))

section SC
variable {l : Launch} {D : va_G} {N0 N1 : Nat} {G : Nat → Nat → Nat} {cI cL cQ : ClassId} {rest : va_W}
set_option maxHeartbeats 400000 in
set_option maxRecDepth 100000 in
theorem c_Row_set (k : Nat) (hk : k < 19) (σ : SC) (π : PJ) (hπ : RJ π σ) (x0 : Int32) (x1 : Int64) : CM l y_Row_set b_Row_set 6 (none) { frames := 3, cells := 1, slots := 4, locals := 62 } D (tyL cI cL cQ) N0 N0 [.ref (G 1 k), .int x0, .long x1] (wsC G cI cL cQ σ π rest) (none) (pwC G cI cL cQ (m_Row_set σ k x0 x1) rest) 1 4 := by
  generalize hR : m_Row_set σ k x0 x1 = RES
  refine met_of (own := R_Row) (by decide) rfl nwl_ok ?_
  intro p e s m below meth c hC hin hB
  have hx := hC.1
  have hb := hC.2.1
  have hl := lv_entry ([.ref (G 1 k), .int x0, .long x1]) (n := 6) (Nat.le_of_ble_eq_true rfl)
  rw [lg_entry_eq]
  generalize (lg_sl ([.ref (G 1 k), .int x0, .long x1]) ++ List.replicate (6 - (lg_sl ([.ref (G 1 k), .int x0, .long x1])).length) Slot.unset).toArray = ls at hl ⊢
  have hl : lv_has ls 6 [(0, .ref (G 1 k)), (1, .int x0), (2, .long x1)] := hl
  rw [m_Row_set] at hR
  refine lv_aload_n hx hb d_Row_set_0 rfl (lv_at hl 0 rfl) ?_
  refine lv_iload_n hx hb d_Row_set_1 rfl (lv_at hl 1 rfl) ?_
  refine kV hC hB _ (lkC_row hk) rfl (c_Row_longAt k hk σ π x0) allw_ok mf_Row_longAt kw_296 kw_297 kw_295 ⟨rfl, rfl, Nat.le_of_ble_eq_true rfl, Nat.le_of_ble_eq_true rfl⟩ rfl rfl hl.1 (Nat.le_of_ble_eq_true rfl) d_Row_set_2 ⟨Nat.le_of_ble_eq_true rfl, Nat.le_of_ble_eq_true rfl⟩ (roK fun H locs hB => ?_)
  refine lv_lstore (lv' := [(4, .long (m_Row_longAt σ k x0)), (0, .ref (G 1 k)), (1, .int x0), (2, .long x1)]) hx hb d_Row_set_5 hl (by decide) rfl (fun ls hl => ?_)
  refine lv_lload hx hb d_Row_set_7 (lv_at hl 0 rfl) ?_
  refine lv_lload_n hx hb d_Row_set_9 rfl (lv_at hl 3 rfl) ?_
  refine W.lcmp hx hb d_Row_set_10 ?_
  refine lv_if_eq (tgt := 31) hx hb d_Row_set_11 (by decide) (fun c_1 => ?_) (fun c_1 => ?_)
  · rw [if_pos c_1] at hR
    subst hR
    refine W.widen (k := 1) (n := 4) (Nat.le_of_ble_eq_true rfl) (Nat.le_of_ble_eq_true rfl) ?_
    exact rv hC hB ⟨π, hπ, rfl⟩ d_Row_set_31
  · rw [if_neg c_1] at hR
    refine lv_aload_n hx hb d_Row_set_14 rfl (lv_at hl 1 rfl) ?_
    refine gt hC hB _ (lkC_row hk) rfl i_Row 0 (by decide) rfl kw_67 rfl d_Row_set_15 ?_
    refine lv_aload_n hx hb d_Row_set_18 rfl (lv_at hl 1 rfl) ?_
    refine lv_iload_n hx hb d_Row_set_19 rfl (lv_at hl 2 rfl) ?_
    refine lv_lload hx hb d_Row_set_20 (lv_at hl 0 rfl) ?_
    refine kV hC hB _ lkC_Journal rfl (c_Journal_note k hk σ π hπ x0 (m_Row_longAt σ k x0)) allw_ok mf_Journal_note kw_301 kw_302 kw_300 ⟨rfl, rfl, Nat.le_of_ble_eq_true rfl, Nat.le_of_ble_eq_true rfl⟩ rfl rfl hl.1 (Nat.le_of_ble_eq_true rfl) d_Row_set_22 ⟨Nat.le_of_ble_eq_true rfl, Nat.le_of_ble_eq_true rfl⟩ (fun H locs w hw hB => ?_)
    obtain ⟨π, hπ, rfl⟩ := hw
    refine lv_aload_n hx hb d_Row_set_25 rfl (lv_at hl 1 rfl) ?_
    refine lv_iload_n hx hb d_Row_set_26 rfl (lv_at hl 2 rfl) ?_
    refine lv_lload_n hx hb d_Row_set_27 rfl (lv_at hl 3 rfl) ?_
    refine kV hC hB _ (lkC_row hk) rfl (c_Row_restore k hk (m_Journal_note σ k x0 (m_Row_longAt σ k x0)) π x0 x1) allw_ok mf_Row_restore kw_77 kw_78 kw_327 ⟨rfl, rfl, Nat.le_of_ble_eq_true rfl, Nat.le_of_ble_eq_true rfl⟩ rfl rfl hl.1 (Nat.le_of_ble_eq_true rfl) d_Row_set_28 ⟨Nat.le_of_ble_eq_true rfl, Nat.le_of_ble_eq_true rfl⟩ (roK fun H locs hB => ?_)
    have hπ : RJ π (m_Row_restore (m_Journal_note σ k x0 (m_Row_longAt σ k x0)) k x0 x1) := rj_Row_restore hπ k x0 x1
    subst hR
    refine W.widen (k := 1) (n := 4) (Nat.le_of_ble_eq_true rfl) (Nat.le_of_ble_eq_true rfl) ?_
    exact rv hC hB ⟨π, hπ, rfl⟩ d_Row_set_31

set_option maxHeartbeats 400000 in
set_option maxRecDepth 100000 in
theorem c_Sheets_addSheet  (σ : SC) (π : PJ) (hπ : RJ π σ)  : CM l y_Sheets_addSheet b_Sheets_addSheet 2 (some .int) { frames := 4, cells := 1, slots := 4, locals := 87 } D (tyL cI cL cQ) N0 N0 [.ref (G 0 3)] (wsC G cI cL cQ σ π rest) (some (.int ((m_Sheets_addSheet σ).1))) (pwC G cI cL cQ ((m_Sheets_addSheet σ).2) rest) 1 4 := by
  generalize hR : m_Sheets_addSheet σ = RES
  obtain ⟨RV, RS⟩ := RES
  dsimp only
  refine met_of (own := R_Sheets) (by decide) rfl nwl_ok ?_
  intro p e s m below meth c hC hin hB
  have hx := hC.1
  have hb := hC.2.1
  have hl := lv_entry ([.ref (G 0 3)]) (n := 2) (Nat.le_of_ble_eq_true rfl)
  rw [lg_entry_eq]
  generalize (lg_sl ([.ref (G 0 3)]) ++ List.replicate (2 - (lg_sl ([.ref (G 0 3)])).length) Slot.unset).toArray = ls at hl ⊢
  have hl : lv_has ls 2 [(0, .ref (G 0 3))] := hl
  rw [m_Sheets_addSheet] at hR
  refine lv_aload_n hx hb d_Sheets_addSheet_0 rfl (lv_at hl 0 rfl) ?_
  refine kV hC hB _ lkC_Sheets rfl (c_Sheets_sheetCount σ π) allw_ok mf_Sheets_sheetCount kw_283 kw_284 kw_290 ⟨rfl, rfl, Nat.le_of_ble_eq_true rfl, Nat.le_of_ble_eq_true rfl⟩ rfl rfl hl.1 (Nat.le_of_ble_eq_true rfl) d_Sheets_addSheet_1 ⟨Nat.le_of_ble_eq_true rfl, Nat.le_of_ble_eq_true rfl⟩ (roK fun H locs hB => ?_)
  refine lv_istore_n (lv' := [(1, .int (m_Sheets_sheetCount σ)), (0, .ref (G 0 3))]) hx hb d_Sheets_addSheet_4 rfl hl (by decide) rfl (fun ls hl => ?_)
  refine lv_aload_n hx hb d_Sheets_addSheet_5 rfl (lv_at hl 1 rfl) ?_
  refine gt hC hB _ lkC_Sheets rfl i_Sheets 0 (by decide) rfl kw_80 rfl d_Sheets_addSheet_6 ?_
  refine lv_iconst (v := 0) hx hb d_Sheets_addSheet_9 (by decide) ?_
  refine lv_iload_n hx hb d_Sheets_addSheet_10 rfl (lv_at hl 0 rfl) ?_
  refine lv_iconst (v := 1) hx hb d_Sheets_addSheet_11 (by decide) ?_
  refine lv_iadd hx hb d_Sheets_addSheet_12 ?_
  refine lv_i2l hx hb d_Sheets_addSheet_13 rfl ?_
  refine kV hC hB _ (lkC_row (by decide)) rfl (c_Row_set 0 (by decide) σ π hπ 0 (((m_Sheets_sheetCount σ) + 1).toInt64)) allw_ok mf_Row_set kw_292 kw_293 kw_291 ⟨rfl, rfl, Nat.le_of_ble_eq_true rfl, Nat.le_of_ble_eq_true rfl⟩ rfl rfl hl.1 (Nat.le_of_ble_eq_true rfl) d_Sheets_addSheet_14 ⟨Nat.le_of_ble_eq_true rfl, Nat.le_of_ble_eq_true rfl⟩ (fun H locs w hw hB => ?_)
  obtain ⟨π, hπ, rfl⟩ := hw
  refine lv_iload_n hx hb d_Sheets_addSheet_17 rfl (lv_at hl 0 rfl) ?_
  obtain ⟨rfl, rfl⟩ := Prod.mk.inj hR
  refine W.widen (k := 1) (n := 4) (Nat.le_of_ble_eq_true rfl) (Nat.le_of_ble_eq_true rfl) ?_
  exact ri hC hB ⟨π, hπ, rfl⟩ d_Sheets_addSheet_18

set_option maxHeartbeats 400000 in
set_option maxRecDepth 100000 in
theorem c_Sheets_setJoint  (σ : SC) (π : PJ) (hπ : RJ π σ) (x0 : Int32) (x1 : Int32) (x2 : Int32) : CM l y_Sheets_setJoint b_Sheets_setJoint 4 (none) { frames := 4, cells := 1, slots := 4, locals := 87 } D (tyL cI cL cQ) N0 N0 [.ref (G 0 3), .int x0, .int x1, .int x2] (wsC G cI cL cQ σ π rest) (none) (pwC G cI cL cQ (m_Sheets_setJoint σ x0 x1 x2) rest) 1 4 := by
  generalize hR : m_Sheets_setJoint σ x0 x1 x2 = RES
  refine met_of (own := R_Sheets) (by decide) rfl nwl_ok ?_
  intro p e s m below meth c hC hin hB
  have hx := hC.1
  have hb := hC.2.1
  have hl := lv_entry ([.ref (G 0 3), .int x0, .int x1, .int x2]) (n := 4) (Nat.le_of_ble_eq_true rfl)
  rw [lg_entry_eq]
  generalize (lg_sl ([.ref (G 0 3), .int x0, .int x1, .int x2]) ++ List.replicate (4 - (lg_sl ([.ref (G 0 3), .int x0, .int x1, .int x2])).length) Slot.unset).toArray = ls at hl ⊢
  have hl : lv_has ls 4 [(0, .ref (G 0 3)), (1, .int x0), (2, .int x1), (3, .int x2)] := hl
  rw [m_Sheets_setJoint] at hR
  refine lv_aload_n hx hb d_Sheets_setJoint_0 rfl (lv_at hl 0 rfl) ?_
  refine gt hC hB _ lkC_Sheets rfl i_Sheets 5 (by decide) rfl kw_85 rfl d_Sheets_setJoint_1 ?_
  refine lv_iload_n hx hb d_Sheets_setJoint_4 rfl (lv_at hl 1 rfl) ?_
  refine lv_bipush (v := 32) hx hb d_Sheets_setJoint_5 (by decide) ?_
  refine lv_imul hx hb d_Sheets_setJoint_7 ?_
  refine lv_iload_n hx hb d_Sheets_setJoint_8 rfl (lv_at hl 2 rfl) ?_
  refine lv_iadd hx hb d_Sheets_setJoint_9 ?_
  refine lv_iload_n hx hb d_Sheets_setJoint_10 rfl (lv_at hl 3 rfl) ?_
  refine lv_i2l hx hb d_Sheets_setJoint_11 rfl ?_
  refine kV hC hB _ (lkC_row (by decide)) rfl (c_Row_set 5 (by decide) σ π hπ ((x0 * 32) + x1) x2.toInt64) allw_ok mf_Row_set kw_292 kw_293 kw_291 ⟨rfl, rfl, Nat.le_of_ble_eq_true rfl, Nat.le_of_ble_eq_true rfl⟩ rfl rfl hl.1 (Nat.le_of_ble_eq_true rfl) d_Sheets_setJoint_12 ⟨Nat.le_of_ble_eq_true rfl, Nat.le_of_ble_eq_true rfl⟩ (fun H locs w hw hB => ?_)
  obtain ⟨π, hπ, rfl⟩ := hw
  subst hR
  refine W.widen (k := 1) (n := 4) (Nat.le_of_ble_eq_true rfl) (Nat.le_of_ble_eq_true rfl) ?_
  exact rv hC hB ⟨π, hπ, rfl⟩ d_Sheets_setJoint_15

set_option maxHeartbeats 400000 in
set_option maxRecDepth 100000 in
theorem c_Sheets_addName  (σ : SC) (π : PJ) (hπ : RJ π σ) (x0 : Int32) (x1 : Int32) : CM l y_Sheets_addName b_Sheets_addName 3 (none) { frames := 4, cells := 1, slots := 4, locals := 87 } D (tyL cI cL cQ) N0 N0 [.ref (G 0 3), .int x0, .int x1] (wsC G cI cL cQ σ π rest) (none) (pwC G cI cL cQ (m_Sheets_addName σ x0 x1) rest) 1 4 := by
  generalize hR : m_Sheets_addName σ x0 x1 = RES
  refine met_of (own := R_Sheets) (by decide) rfl nwl_ok ?_
  intro p e s m below meth c hC hin hB
  have hx := hC.1
  have hb := hC.2.1
  have hl := lv_entry ([.ref (G 0 3), .int x0, .int x1]) (n := 3) (Nat.le_of_ble_eq_true rfl)
  rw [lg_entry_eq]
  generalize (lg_sl ([.ref (G 0 3), .int x0, .int x1]) ++ List.replicate (3 - (lg_sl ([.ref (G 0 3), .int x0, .int x1])).length) Slot.unset).toArray = ls at hl ⊢
  have hl : lv_has ls 3 [(0, .ref (G 0 3)), (1, .int x0), (2, .int x1)] := hl
  rw [m_Sheets_addName] at hR
  refine lv_aload_n hx hb d_Sheets_addName_0 rfl (lv_at hl 0 rfl) ?_
  refine gt hC hB _ lkC_Sheets rfl i_Sheets 1 (by decide) rfl kw_81 rfl d_Sheets_addName_1 ?_
  refine lv_iload_n hx hb d_Sheets_addName_4 rfl (lv_at hl 1 rfl) ?_
  refine lv_aload_n hx hb d_Sheets_addName_5 rfl (lv_at hl 0 rfl) ?_
  refine gt hC hB _ lkC_Sheets rfl i_Sheets 1 (by decide) rfl kw_81 rfl d_Sheets_addName_6 ?_
  refine lv_iload_n hx hb d_Sheets_addName_9 rfl (lv_at hl 1 rfl) ?_
  refine kV hC hB _ (lkC_row (by decide)) rfl (c_Row_at 1 (by decide) σ π x0) allw_ok mf_Row_at kw_233 kw_234 kw_232 ⟨rfl, rfl, Nat.le_of_ble_eq_true rfl, Nat.le_of_ble_eq_true rfl⟩ rfl rfl hl.1 (Nat.le_of_ble_eq_true rfl) d_Sheets_addName_10 ⟨Nat.le_of_ble_eq_true rfl, Nat.le_of_ble_eq_true rfl⟩ (roK fun H locs hB => ?_)
  refine lv_iconst (v := 1) hx hb d_Sheets_addName_13 (by decide) ?_
  refine lv_iload_n hx hb d_Sheets_addName_14 rfl (lv_at hl 2 rfl) ?_
  refine lv_ishl hx hb d_Sheets_addName_15 ?_
  refine lv_ior hx hb d_Sheets_addName_16 ?_
  refine lv_i2l hx hb d_Sheets_addName_17 rfl ?_
  refine kV hC hB _ (lkC_row (by decide)) rfl (c_Row_set 1 (by decide) σ π hπ x0 (((m_Row_at σ 1 x0) ||| (1 <<< (x1 &&& 31))).toInt64)) allw_ok mf_Row_set kw_292 kw_293 kw_291 ⟨rfl, rfl, Nat.le_of_ble_eq_true rfl, Nat.le_of_ble_eq_true rfl⟩ rfl rfl hl.1 (Nat.le_of_ble_eq_true rfl) d_Sheets_addName_18 ⟨Nat.le_of_ble_eq_true rfl, Nat.le_of_ble_eq_true rfl⟩ (fun H locs w hw hB => ?_)
  obtain ⟨π, hπ, rfl⟩ := hw
  subst hR
  refine W.widen (k := 1) (n := 4) (Nat.le_of_ble_eq_true rfl) (Nat.le_of_ble_eq_true rfl) ?_
  exact rv hC hB ⟨π, hπ, rfl⟩ d_Sheets_addName_21

set_option maxHeartbeats 400000 in
set_option maxRecDepth 100000 in
theorem c_Sheets_append  (σ : SC) (π : PJ) (hπ : RJ π σ) (x0 : Int32) (x1 : Int32) : CM l y_Sheets_append b_Sheets_append 3 (none) { frames := 4, cells := 2, slots := 8, locals := 87 } D (tyL cI cL cQ) N0 N0 [.ref (G 0 3), .int x0, .int x1] (wsC G cI cL cQ σ π rest) (none) (pwC G cI cL cQ (m_Sheets_append σ x0 x1) rest) 2 8 := by
  generalize hR : m_Sheets_append σ x0 x1 = RES
  refine met_of (own := R_Sheets) (by decide) rfl nwl_ok ?_
  intro p e s m below meth c hC hin hB
  have hx := hC.1
  have hb := hC.2.1
  have hl := lv_entry ([.ref (G 0 3), .int x0, .int x1]) (n := 3) (Nat.le_of_ble_eq_true rfl)
  rw [lg_entry_eq]
  generalize (lg_sl ([.ref (G 0 3), .int x0, .int x1]) ++ List.replicate (3 - (lg_sl ([.ref (G 0 3), .int x0, .int x1])).length) Slot.unset).toArray = ls at hl ⊢
  have hl : lv_has ls 3 [(0, .ref (G 0 3)), (1, .int x0), (2, .int x1)] := hl
  rw [m_Sheets_append] at hR
  refine lv_aload_n hx hb d_Sheets_append_0 rfl (lv_at hl 0 rfl) ?_
  refine gt hC hB _ lkC_Sheets rfl i_Sheets 3 (by decide) rfl kw_83 rfl d_Sheets_append_1 ?_
  refine lv_iload_n hx hb d_Sheets_append_4 rfl (lv_at hl 1 rfl) ?_
  refine lv_iload_n hx hb d_Sheets_append_5 rfl (lv_at hl 2 rfl) ?_
  refine lv_i2l hx hb d_Sheets_append_6 rfl ?_
  refine kV hC hB _ (lkC_row (by decide)) rfl (c_Row_set 3 (by decide) σ π hπ x0 x1.toInt64) allw_ok mf_Row_set kw_292 kw_293 kw_291 ⟨rfl, rfl, Nat.le_of_ble_eq_true rfl, Nat.le_of_ble_eq_true rfl⟩ rfl rfl hl.1 (Nat.le_of_ble_eq_true rfl) d_Sheets_append_7 ⟨Nat.le_of_ble_eq_true rfl, Nat.le_of_ble_eq_true rfl⟩ (fun H locs w hw hB => ?_)
  obtain ⟨π, hπ, rfl⟩ := hw
  refine lv_aload_n hx hb d_Sheets_append_10 rfl (lv_at hl 0 rfl) ?_
  refine gt hC hB _ lkC_Sheets rfl i_Sheets 4 (by decide) rfl kw_84 rfl d_Sheets_append_11 ?_
  refine lv_aload_n hx hb d_Sheets_append_14 rfl (lv_at hl 0 rfl) ?_
  refine lv_iload_n hx hb d_Sheets_append_15 rfl (lv_at hl 2 rfl) ?_
  refine lv_iconst (v := (-1)) hx hb d_Sheets_append_16 (by decide) ?_
  refine kV hC hB _ lkC_Sheets rfl (c_Sheets_cellBefore (m_Row_set σ 3 x0 x1.toInt64) π x1 (-1)) allw_ok mf_Sheets_cellBefore kw_493 ks_9 kw_491 ⟨rfl, rfl, Nat.le_of_ble_eq_true rfl, Nat.le_of_ble_eq_true rfl⟩ rfl rfl hl.1 (Nat.le_of_ble_eq_true rfl) d_Sheets_append_17 ⟨Nat.le_of_ble_eq_true rfl, Nat.le_of_ble_eq_true rfl⟩ (roK fun H locs hB => ?_)
  refine lv_iload_n hx hb d_Sheets_append_20 rfl (lv_at hl 1 rfl) ?_
  refine lv_i2l hx hb d_Sheets_append_21 rfl ?_
  refine kV hC hB _ (lkC_row (by decide)) rfl (c_Row_set 4 (by decide) (m_Row_set σ 3 x0 x1.toInt64) π hπ (m_Sheets_cellBefore (m_Row_set σ 3 x0 x1.toInt64) x1 (-1)) x0.toInt64) allw_ok mf_Row_set kw_292 kw_293 kw_291 ⟨rfl, rfl, Nat.le_of_ble_eq_true rfl, Nat.le_of_ble_eq_true rfl⟩ rfl rfl hl.1 (Nat.le_of_ble_eq_true rfl) d_Sheets_append_22 ⟨Nat.le_of_ble_eq_true rfl, Nat.le_of_ble_eq_true rfl⟩ (fun H locs w hw hB => ?_)
  obtain ⟨π, hπ, rfl⟩ := hw
  subst hR
  refine W.widen (k := 2) (n := 8) (Nat.le_of_ble_eq_true rfl) (Nat.le_of_ble_eq_true rfl) ?_
  exact rv hC hB ⟨π, hπ, rfl⟩ d_Sheets_append_25

set_option maxHeartbeats 400000 in
set_option maxRecDepth 100000 in
theorem c_Sheets_unlink  (σ : SC) (π : PJ) (hπ : RJ π σ) (x0 : Int32) : CM l y_Sheets_unlink b_Sheets_unlink 2 (none) { frames := 4, cells := 2, slots := 8, locals := 87 } D (tyL cI cL cQ) N0 N0 [.ref (G 0 3), .int x0] (wsC G cI cL cQ σ π rest) (none) (pwC G cI cL cQ (m_Sheets_unlink σ x0) rest) 2 8 := by
  generalize hR : m_Sheets_unlink σ x0 = RES
  refine met_of (own := R_Sheets) (by decide) rfl nwl_ok ?_
  intro p e s m below meth c hC hin hB
  have hx := hC.1
  have hb := hC.2.1
  have hl := lv_entry ([.ref (G 0 3), .int x0]) (n := 2) (Nat.le_of_ble_eq_true rfl)
  rw [lg_entry_eq]
  generalize (lg_sl ([.ref (G 0 3), .int x0]) ++ List.replicate (2 - (lg_sl ([.ref (G 0 3), .int x0])).length) Slot.unset).toArray = ls at hl ⊢
  have hl : lv_has ls 2 [(0, .ref (G 0 3)), (1, .int x0)] := hl
  rw [m_Sheets_unlink] at hR
  refine lv_aload_n hx hb d_Sheets_unlink_0 rfl (lv_at hl 0 rfl) ?_
  refine gt hC hB _ lkC_Sheets rfl i_Sheets 4 (by decide) rfl kw_84 rfl d_Sheets_unlink_1 ?_
  refine lv_aload_n hx hb d_Sheets_unlink_4 rfl (lv_at hl 0 rfl) ?_
  refine lv_aload_n hx hb d_Sheets_unlink_5 rfl (lv_at hl 0 rfl) ?_
  refine lv_iload_n hx hb d_Sheets_unlink_6 rfl (lv_at hl 1 rfl) ?_
  refine kV hC hB _ lkC_Sheets rfl (c_Sheets_parentOf σ π x0) allw_ok mf_Sheets_parentOf kw_479 kw_480 kw_478 ⟨rfl, rfl, Nat.le_of_ble_eq_true rfl, Nat.le_of_ble_eq_true rfl⟩ rfl rfl hl.1 (Nat.le_of_ble_eq_true rfl) d_Sheets_unlink_7 ⟨Nat.le_of_ble_eq_true rfl, Nat.le_of_ble_eq_true rfl⟩ (roK fun H locs hB => ?_)
  refine lv_iload_n hx hb d_Sheets_unlink_10 rfl (lv_at hl 1 rfl) ?_
  refine kV hC hB _ lkC_Sheets rfl (c_Sheets_cellBefore σ π (m_Sheets_parentOf σ x0) x0) allw_ok mf_Sheets_cellBefore kw_493 ks_9 kw_491 ⟨rfl, rfl, Nat.le_of_ble_eq_true rfl, Nat.le_of_ble_eq_true rfl⟩ rfl rfl hl.1 (Nat.le_of_ble_eq_true rfl) d_Sheets_unlink_11 ⟨Nat.le_of_ble_eq_true rfl, Nat.le_of_ble_eq_true rfl⟩ (roK fun H locs hB => ?_)
  refine lv_aload_n hx hb d_Sheets_unlink_14 rfl (lv_at hl 0 rfl) ?_
  refine lv_iload_n hx hb d_Sheets_unlink_15 rfl (lv_at hl 1 rfl) ?_
  refine kV hC hB _ lkC_Sheets rfl (c_Sheets_nextOf σ π x0) allw_ok mf_Sheets_nextOf kw_241 kw_242 kw_525 ⟨rfl, rfl, Nat.le_of_ble_eq_true rfl, Nat.le_of_ble_eq_true rfl⟩ rfl rfl hl.1 (Nat.le_of_ble_eq_true rfl) d_Sheets_unlink_16 ⟨Nat.le_of_ble_eq_true rfl, Nat.le_of_ble_eq_true rfl⟩ (roK fun H locs hB => ?_)
  refine lv_i2l hx hb d_Sheets_unlink_19 rfl ?_
  refine kV hC hB _ (lkC_row (by decide)) rfl (c_Row_set 4 (by decide) σ π hπ (m_Sheets_cellBefore σ (m_Sheets_parentOf σ x0) x0) ((m_Sheets_nextOf σ x0).toInt64)) allw_ok mf_Row_set kw_292 kw_293 kw_291 ⟨rfl, rfl, Nat.le_of_ble_eq_true rfl, Nat.le_of_ble_eq_true rfl⟩ rfl rfl hl.1 (Nat.le_of_ble_eq_true rfl) d_Sheets_unlink_20 ⟨Nat.le_of_ble_eq_true rfl, Nat.le_of_ble_eq_true rfl⟩ (fun H locs w hw hB => ?_)
  obtain ⟨π, hπ, rfl⟩ := hw
  refine lv_aload_n hx hb d_Sheets_unlink_23 rfl (lv_at hl 0 rfl) ?_
  refine gt hC hB _ lkC_Sheets rfl i_Sheets 4 (by decide) rfl kw_84 rfl d_Sheets_unlink_24 ?_
  refine lv_iload_n hx hb d_Sheets_unlink_27 rfl (lv_at hl 1 rfl) ?_
  refine lv_ldc2 (v := (-1)) hx hb hC.2.2.2.2.1 (hC.2.2.2.2.2.1 _ kw_75) d_Sheets_unlink_28 ?_
  refine kV hC hB _ (lkC_row (by decide)) rfl (c_Row_set 4 (by decide) (m_Row_set σ 4 (m_Sheets_cellBefore σ (m_Sheets_parentOf σ x0) x0) ((m_Sheets_nextOf σ x0).toInt64)) π hπ x0 (-1)) allw_ok mf_Row_set kw_292 kw_293 kw_291 ⟨rfl, rfl, Nat.le_of_ble_eq_true rfl, Nat.le_of_ble_eq_true rfl⟩ rfl rfl hl.1 (Nat.le_of_ble_eq_true rfl) d_Sheets_unlink_31 ⟨Nat.le_of_ble_eq_true rfl, Nat.le_of_ble_eq_true rfl⟩ (fun H locs w hw hB => ?_)
  obtain ⟨π, hπ, rfl⟩ := hw
  subst hR
  refine W.widen (k := 2) (n := 8) (Nat.le_of_ble_eq_true rfl) (Nat.le_of_ble_eq_true rfl) ?_
  exact rv hC hB ⟨π, hπ, rfl⟩ d_Sheets_unlink_34

set_option maxHeartbeats 400000 in
set_option maxRecDepth 100000 in
theorem c_Sheets_takeAway  (σ : SC) (π : PJ) (hπ : RJ π σ) (x0 : Int32) : CM l y_Sheets_takeAway b_Sheets_takeAway 2 (none) { frames := 5, cells := 3, slots := 12, locals := 108 } D (tyL cI cL cQ) N0 N0 [.ref (G 0 3), .int x0] (wsC G cI cL cQ σ π rest) (none) (pwC G cI cL cQ (m_Sheets_takeAway σ x0) rest) 3 12 := by
  generalize hR : m_Sheets_takeAway σ x0 = RES
  refine met_of (own := R_Sheets) (by decide) rfl nwl_ok ?_
  intro p e s m below meth c hC hin hB
  have hx := hC.1
  have hb := hC.2.1
  have hl := lv_entry ([.ref (G 0 3), .int x0]) (n := 2) (Nat.le_of_ble_eq_true rfl)
  rw [lg_entry_eq]
  generalize (lg_sl ([.ref (G 0 3), .int x0]) ++ List.replicate (2 - (lg_sl ([.ref (G 0 3), .int x0])).length) Slot.unset).toArray = ls at hl ⊢
  have hl : lv_has ls 2 [(0, .ref (G 0 3)), (1, .int x0)] := hl
  rw [m_Sheets_takeAway] at hR
  refine lv_aload_n hx hb d_Sheets_takeAway_0 rfl (lv_at hl 0 rfl) ?_
  refine lv_iload_n hx hb d_Sheets_takeAway_1 rfl (lv_at hl 1 rfl) ?_
  refine kV hC hB _ lkC_Sheets rfl (c_Sheets_unlink σ π hπ x0) allw_ok mf_Sheets_unlink kw_523 ks_12 kw_521 ⟨rfl, rfl, Nat.le_of_ble_eq_true rfl, Nat.le_of_ble_eq_true rfl⟩ rfl rfl hl.1 (Nat.le_of_ble_eq_true rfl) d_Sheets_takeAway_2 ⟨Nat.le_of_ble_eq_true rfl, Nat.le_of_ble_eq_true rfl⟩ (fun H locs w hw hB => ?_)
  obtain ⟨π, hπ, rfl⟩ := hw
  refine lv_aload_n hx hb d_Sheets_takeAway_5 rfl (lv_at hl 0 rfl) ?_
  refine gt hC hB _ lkC_Sheets rfl i_Sheets 3 (by decide) rfl kw_83 rfl d_Sheets_takeAway_6 ?_
  refine lv_iload_n hx hb d_Sheets_takeAway_9 rfl (lv_at hl 1 rfl) ?_
  refine lv_ldc2 (v := (-1)) hx hb hC.2.2.2.2.1 (hC.2.2.2.2.2.1 _ kw_75) d_Sheets_takeAway_10 ?_
  refine kV hC hB _ (lkC_row (by decide)) rfl (c_Row_set 3 (by decide) (m_Sheets_unlink σ x0) π hπ x0 (-1)) allw_ok mf_Row_set kw_292 kw_293 kw_291 ⟨rfl, rfl, Nat.le_of_ble_eq_true rfl, Nat.le_of_ble_eq_true rfl⟩ rfl rfl hl.1 (Nat.le_of_ble_eq_true rfl) d_Sheets_takeAway_13 ⟨Nat.le_of_ble_eq_true rfl, Nat.le_of_ble_eq_true rfl⟩ (fun H locs w hw hB => ?_)
  obtain ⟨π, hπ, rfl⟩ := hw
  subst hR
  refine W.widen (k := 3) (n := 12) (Nat.le_of_ble_eq_true rfl) (Nat.le_of_ble_eq_true rfl) ?_
  exact rv hC hB ⟨π, hπ, rfl⟩ d_Sheets_takeAway_16

set_option maxHeartbeats 400000 in
set_option maxRecDepth 100000 in
theorem c_Sheets_addPlacement  (σ : SC) (π : PJ) (hπ : RJ π σ) (x0 : Int32) (x1 : Int32) : CM l y_Sheets_addPlacement b_Sheets_addPlacement 4 (some .int) { frames := 5, cells := 4, slots := 16, locals := 109 } D (tyL cI cL cQ) N0 N0 [.ref (G 0 3), .int x0, .int x1] (wsC G cI cL cQ σ π rest) (some (.int ((m_Sheets_addPlacement σ x0 x1).1))) (pwC G cI cL cQ ((m_Sheets_addPlacement σ x0 x1).2) rest) 4 16 := by
  generalize hR : m_Sheets_addPlacement σ x0 x1 = RES
  obtain ⟨RV, RS⟩ := RES
  dsimp only
  refine met_of (own := R_Sheets) (by decide) rfl nwl_ok ?_
  intro p e s m below meth c hC hin hB
  have hx := hC.1
  have hb := hC.2.1
  have hl := lv_entry ([.ref (G 0 3), .int x0, .int x1]) (n := 4) (Nat.le_of_ble_eq_true rfl)
  rw [lg_entry_eq]
  generalize (lg_sl ([.ref (G 0 3), .int x0, .int x1]) ++ List.replicate (4 - (lg_sl ([.ref (G 0 3), .int x0, .int x1])).length) Slot.unset).toArray = ls at hl ⊢
  have hl : lv_has ls 4 [(0, .ref (G 0 3)), (1, .int x0), (2, .int x1)] := hl
  rw [m_Sheets_addPlacement] at hR
  refine lv_aload_n hx hb d_Sheets_addPlacement_0 rfl (lv_at hl 0 rfl) ?_
  refine gt hC hB _ lkC_Sheets rfl i_Sheets 0 (by decide) rfl kw_80 rfl d_Sheets_addPlacement_1 ?_
  refine lv_iconst (v := 1) hx hb d_Sheets_addPlacement_4 (by decide) ?_
  refine kV hC hB _ (lkC_row (by decide)) rfl (c_Row_at 0 (by decide) σ π 1) allw_ok mf_Row_at kw_233 kw_234 kw_232 ⟨rfl, rfl, Nat.le_of_ble_eq_true rfl, Nat.le_of_ble_eq_true rfl⟩ rfl rfl hl.1 (Nat.le_of_ble_eq_true rfl) d_Sheets_addPlacement_5 ⟨Nat.le_of_ble_eq_true rfl, Nat.le_of_ble_eq_true rfl⟩ (roK fun H locs hB => ?_)
  refine lv_istore_n (lv' := [(3, .int (m_Row_at σ 0 1)), (0, .ref (G 0 3)), (1, .int x0), (2, .int x1)]) hx hb d_Sheets_addPlacement_8 rfl hl (by decide) rfl (fun ls hl => ?_)
  refine lv_aload_n hx hb d_Sheets_addPlacement_9 rfl (lv_at hl 1 rfl) ?_
  refine gt hC hB _ lkC_Sheets rfl i_Sheets 0 (by decide) rfl kw_80 rfl d_Sheets_addPlacement_10 ?_
  refine lv_iconst (v := 1) hx hb d_Sheets_addPlacement_13 (by decide) ?_
  refine lv_iload_n hx hb d_Sheets_addPlacement_14 rfl (lv_at hl 0 rfl) ?_
  refine lv_iconst (v := 1) hx hb d_Sheets_addPlacement_15 (by decide) ?_
  refine lv_iadd hx hb d_Sheets_addPlacement_16 ?_
  refine lv_i2l hx hb d_Sheets_addPlacement_17 rfl ?_
  refine kV hC hB _ (lkC_row (by decide)) rfl (c_Row_set 0 (by decide) σ π hπ 1 (((m_Row_at σ 0 1) + 1).toInt64)) allw_ok mf_Row_set kw_292 kw_293 kw_291 ⟨rfl, rfl, Nat.le_of_ble_eq_true rfl, Nat.le_of_ble_eq_true rfl⟩ rfl rfl hl.1 (Nat.le_of_ble_eq_true rfl) d_Sheets_addPlacement_18 ⟨Nat.le_of_ble_eq_true rfl, Nat.le_of_ble_eq_true rfl⟩ (fun H locs w hw hB => ?_)
  obtain ⟨π, hπ, rfl⟩ := hw
  refine lv_aload_n hx hb d_Sheets_addPlacement_21 rfl (lv_at hl 1 rfl) ?_
  refine gt hC hB _ lkC_Sheets rfl i_Sheets 2 (by decide) rfl kw_82 rfl d_Sheets_addPlacement_22 ?_
  refine lv_iload_n hx hb d_Sheets_addPlacement_25 rfl (lv_at hl 0 rfl) ?_
  refine lv_iload_n hx hb d_Sheets_addPlacement_26 rfl (lv_at hl 3 rfl) ?_
  refine lv_i2l hx hb d_Sheets_addPlacement_27 rfl ?_
  refine kV hC hB _ (lkC_row (by decide)) rfl (c_Row_set 2 (by decide) (m_Row_set σ 0 1 (((m_Row_at σ 0 1) + 1).toInt64)) π hπ (m_Row_at σ 0 1) x1.toInt64) allw_ok mf_Row_set kw_292 kw_293 kw_291 ⟨rfl, rfl, Nat.le_of_ble_eq_true rfl, Nat.le_of_ble_eq_true rfl⟩ rfl rfl hl.1 (Nat.le_of_ble_eq_true rfl) d_Sheets_addPlacement_28 ⟨Nat.le_of_ble_eq_true rfl, Nat.le_of_ble_eq_true rfl⟩ (fun H locs w hw hB => ?_)
  obtain ⟨π, hπ, rfl⟩ := hw
  refine lv_aload_n hx hb d_Sheets_addPlacement_31 rfl (lv_at hl 1 rfl) ?_
  refine lv_iload_n hx hb d_Sheets_addPlacement_32 rfl (lv_at hl 0 rfl) ?_
  refine lv_iload_n hx hb d_Sheets_addPlacement_33 rfl (lv_at hl 2 rfl) ?_
  refine kV hC hB _ lkC_Sheets rfl (c_Sheets_append (m_Row_set (m_Row_set σ 0 1 (((m_Row_at σ 0 1) + 1).toInt64)) 2 (m_Row_at σ 0 1) x1.toInt64) π hπ (m_Row_at σ 0 1) x0) allw_ok mf_Sheets_append kw_489 ks_8 kw_487 ⟨rfl, rfl, Nat.le_of_ble_eq_true rfl, Nat.le_of_ble_eq_true rfl⟩ rfl rfl hl.1 (Nat.le_of_ble_eq_true rfl) d_Sheets_addPlacement_34 ⟨Nat.le_of_ble_eq_true rfl, Nat.le_of_ble_eq_true rfl⟩ (fun H locs w hw hB => ?_)
  obtain ⟨π, hπ, rfl⟩ := hw
  refine lv_iload_n hx hb d_Sheets_addPlacement_37 rfl (lv_at hl 0 rfl) ?_
  obtain ⟨rfl, rfl⟩ := Prod.mk.inj hR
  refine W.widen (k := 4) (n := 16) (Nat.le_of_ble_eq_true rfl) (Nat.le_of_ble_eq_true rfl) ?_
  exact ri hC hB ⟨π, hπ, rfl⟩ d_Sheets_addPlacement_38
end SC
