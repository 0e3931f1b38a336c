def m_Book_count (σ : SC) : Int32 :=
  (xn σ 2)

def m_Book_isWithinLimit (σ : SC) : Bool :=
  if 300 < (xn σ 2) then
    false
  else
    true

def m_Book_sheetAt (σ : SC) (x0 : Int32) : Int32 :=
  (m_ST_read σ 0 x0)

def m_Book_placementAt (σ : SC) (x0 : Int32) : Int32 :=
  (m_ST_read σ 1 x0)

def m_Book_pageAbove (σ : SC) (x0 : Int32) : Int32 :=
  (m_ST_read σ 2 x0)

def m_Book_depthAt (σ : SC) (x0 : Int32) : Int32 :=
  (m_ST_read σ 3 x0)

def m_Book_comingAt (σ : SC) (x0 : Int32) : Int32 :=
  (m_ST_read σ 4 x0)

def m_Book_comingsOf (σ : SC) (x0 : Int32) : Int32 :=
  (if (m_ST_read σ 5 x0) < 0 then 0 else (m_ST_read σ 5 x0))

def m_Book_addPage (σ : SC) (x0 : Int32) (x1 : Int32) (x2 : Int32) (x3 : Int32) : Int32 × SC :=
  ((xn σ 2), (zn (m_ST_write (m_ST_write (m_ST_write (m_ST_write (m_ST_write (m_ST_write σ 0 (xn σ 2) x0) 1 (xn σ 2) x1) 2 (xn σ 2) x2) 3 (xn σ 2) x3) 4 (xn σ 2) (m_Book_comingsOf (m_ST_write (m_ST_write (m_ST_write (m_ST_write σ 0 (xn σ 2) x0) 1 (xn σ 2) x1) 2 (xn σ 2) x2) 3 (xn σ 2) x3) x0)) 5 x0 ((m_Book_comingsOf (m_ST_write (m_ST_write (m_ST_write (m_ST_write (m_ST_write σ 0 (xn σ 2) x0) 1 (xn σ 2) x1) 2 (xn σ 2) x2) 3 (xn σ 2) x3) 4 (xn σ 2) (m_Book_comingsOf (m_ST_write (m_ST_write (m_ST_write (m_ST_write σ 0 (xn σ 2) x0) 1 (xn σ 2) x1) 2 (xn σ 2) x2) 3 (xn σ 2) x3) x0)) x0) + 1)) 2 ((xn (m_ST_write (m_ST_write (m_ST_write (m_ST_write (m_ST_write (m_ST_write σ 0 (xn σ 2) x0) 1 (xn σ 2) x1) 2 (xn σ 2) x2) 3 (xn σ 2) x3) 4 (xn σ 2) (m_Book_comingsOf (m_ST_write (m_ST_write (m_ST_write (m_ST_write σ 0 (xn σ 2) x0) 1 (xn σ 2) x1) 2 (xn σ 2) x2) 3 (xn σ 2) x3) x0)) 5 x0 ((m_Book_comingsOf (m_ST_write (m_ST_write (m_ST_write (m_ST_write (m_ST_write σ 0 (xn σ 2) x0) 1 (xn σ 2) x1) 2 (xn σ 2) x2) 3 (xn σ 2) x3) 4 (xn σ 2) (m_Book_comingsOf (m_ST_write (m_ST_write (m_ST_write (m_ST_write σ 0 (xn σ 2) x0) 1 (xn σ 2) x1) 2 (xn σ 2) x2) 3 (xn σ 2) x3) x0)) x0) + 1)) 2) + 1)))

def lp_Book_pageOfComing_2 : Nat → SC → Int32 → Int32 → Int32 → Int32
  | 0, σ, _, _, _ => 0
  | n + 1, σ, v1, v2, v3 =>
    if (xn σ 2) ≤ v3 then
      (-1)
    else
      if (m_Book_sheetAt σ v3) = v1 then
        if (m_Book_comingAt σ v3) = v2 then
          v3
        else
          lp_Book_pageOfComing_2 n σ v1 v2 (v3 + 1)
      else
        lp_Book_pageOfComing_2 n σ v1 v2 (v3 + 1)

def m_Book_pageOfComing (σ : SC) (x0 : Int32) (x1 : Int32) : Int32 :=
  lp_Book_pageOfComing_2 ((xn σ 2).toNatClampNeg + 1) σ x0 x1 0

section SC
variable {l : Launch} {D : va_G} {N0 N1 : Nat} {G : Nat → Nat → Nat} {cI cL cQ : ClassId} {rest : va_W}
set_option maxHeartbeats 400000 in
set_option maxRecDepth 100000 in
theorem c_Book_count  (σ : SC) (π : PJ)  : CM l y_Book_count b_Book_count 1 (some .int) { frames := 0, cells := 0, slots := 0, locals := 0 } D (tyL cI cL cQ) N0 N1 [.ref (G 0 4)] (wsC G cI cL cQ σ π rest) (some (.int (m_Book_count σ))) (fun w => w = wsC G cI cL cQ σ π rest) 0 0 := by
  generalize hR : m_Book_count σ = RES
  refine met_of (own := R_Book) (by decide) rfl nwl_ok ?_
  intro p e s m below meth c hC hin hB
  have hx := hC.1
  have hb := hC.2.1
  have hl := lv_entry ([.ref (G 0 4)]) (n := 1) (Nat.le_of_ble_eq_true rfl)
  rw [lg_entry_eq]
  generalize (lg_sl ([.ref (G 0 4)]) ++ List.replicate (1 - (lg_sl ([.ref (G 0 4)])).length) Slot.unset).toArray = ls at hl ⊢
  have hl : lv_has ls 1 [(0, .ref (G 0 4))] := hl
  rw [m_Book_count] at hR
  refine lv_aload_n hx hb d_Book_count_0 rfl (lv_at hl 0 rfl) ?_
  refine gt (v := .int (xn σ 2)) hC hB _ lkC_Book rfl i_Book 7 (by decide) rfl kw_112 rfl d_Book_count_1 ?_
  subst hR
  exact ri hC hB rfl d_Book_count_4

set_option maxHeartbeats 400000 in
set_option maxRecDepth 100000 in
theorem c_Book_isWithinLimit  (σ : SC) (π : PJ)  : CM l y_Book_isWithinLimit b_Book_isWithinLimit 1 (some .boolean) { frames := 0, cells := 0, slots := 0, locals := 0 } D (tyL cI cL cQ) N0 N1 [.ref (G 0 4)] (wsC G cI cL cQ σ π rest) (some (.int (bi (m_Book_isWithinLimit σ)))) (fun w => w = wsC G cI cL cQ σ π rest) 0 0 := by
  generalize hR : m_Book_isWithinLimit σ = RES
  refine met_of (own := R_Book) (by decide) rfl nwl_ok ?_
  intro p e s m below meth c hC hin hB
  have hx := hC.1
  have hb := hC.2.1
  have hl := lv_entry ([.ref (G 0 4)]) (n := 1) (Nat.le_of_ble_eq_true rfl)
  rw [lg_entry_eq]
  generalize (lg_sl ([.ref (G 0 4)]) ++ List.replicate (1 - (lg_sl ([.ref (G 0 4)])).length) Slot.unset).toArray = ls at hl ⊢
  have hl : lv_has ls 1 [(0, .ref (G 0 4))] := hl
  rw [m_Book_isWithinLimit] at hR
  refine lv_aload_n hx hb d_Book_isWithinLimit_0 rfl (lv_at hl 0 rfl) ?_
  refine gt (v := .int (xn σ 2)) hC hB _ lkC_Book rfl i_Book 7 (by decide) rfl kw_112 rfl d_Book_isWithinLimit_1 ?_
  refine lv_sipush (v := 300) hx hb d_Book_isWithinLimit_4 (by decide) ?_
  refine lv_icmp_gt (tgt := 14) hx hb d_Book_isWithinLimit_7 (by decide) (fun c_1 => ?_) (fun c_1 => ?_)
  · rw [if_pos c_1] at hR
    refine lv_iconst (v := 0) hx hb d_Book_isWithinLimit_14 (by decide) ?_
    subst hR
    exact rz (b := false) hC hB rfl d_Book_isWithinLimit_15
  · rw [if_neg c_1] at hR
    refine lv_iconst (v := 1) hx hb d_Book_isWithinLimit_10 (by decide) ?_
    refine lv_goto (tgt := 15) hx hb d_Book_isWithinLimit_11 (by decide) ?_
    subst hR
    exact rz (b := true) hC hB rfl d_Book_isWithinLimit_15

set_option maxHeartbeats 400000 in
set_option maxRecDepth 100000 in
theorem c_Book_sheetAt  (σ : SC) (π : PJ) (x0 : Int32) : CM l y_Book_sheetAt b_Book_sheetAt 2 (some .int) { frames := 1, cells := 0, slots := 0, locals := 21 } D (tyL cI cL cQ) N0 N1 [.ref (G 0 4), .int x0] (wsC G cI cL cQ σ π rest) (some (.int (m_Book_sheetAt σ x0))) (fun w => w = wsC G cI cL cQ σ π rest) 0 0 := by
  generalize hR : m_Book_sheetAt σ x0 = RES
  refine met_of (own := R_Book) (by decide) rfl nwl_ok ?_
  intro p e s m below meth c hC hin hB
  have hx := hC.1
  have hb := hC.2.1
  have hl := lv_entry ([.ref (G 0 4), .int x0]) (n := 2) (Nat.le_of_ble_eq_true rfl)
  rw [lg_entry_eq]
  generalize (lg_sl ([.ref (G 0 4), .int x0]) ++ List.replicate (2 - (lg_sl ([.ref (G 0 4), .int x0])).length) Slot.unset).toArray = ls at hl ⊢
  have hl : lv_has ls 2 [(0, .ref (G 0 4)), (1, .int x0)] := hl
  rw [m_Book_sheetAt] at hR
  refine lv_aload_n hx hb d_Book_sheetAt_0 rfl (lv_at hl 0 rfl) ?_
  refine gt hC hB _ lkC_Book rfl i_Book 1 (by decide) rfl kw_106 rfl d_Book_sheetAt_1 ?_
  refine lv_iload_n hx hb d_Book_sheetAt_4 rfl (lv_at hl 1 rfl) ?_
  refine kSN hC hB (c_ST_read 0 (by decide) σ π x0) allw_ok mf_ST_read kw_217 nw_2 ⟨rfl, rfl, Nat.le_of_ble_eq_true rfl, Nat.le_of_ble_eq_true rfl⟩ rfl rfl hl.1 (Nat.le_of_ble_eq_true rfl) d_Book_sheetAt_5 ⟨Nat.le_of_ble_eq_true rfl, Nat.le_of_ble_eq_true rfl⟩ (roK fun H locs hB => ?_)
  subst hR
  exact ri hC hB rfl d_Book_sheetAt_8

set_option maxHeartbeats 400000 in
set_option maxRecDepth 100000 in
theorem c_Book_placementAt  (σ : SC) (π : PJ) (x0 : Int32) : CM l y_Book_placementAt b_Book_placementAt 2 (some .int) { frames := 1, cells := 0, slots := 0, locals := 21 } D (tyL cI cL cQ) N0 N1 [.ref (G 0 4), .int x0] (wsC G cI cL cQ σ π rest) (some (.int (m_Book_placementAt σ x0))) (fun w => w = wsC G cI cL cQ σ π rest) 0 0 := by
  generalize hR : m_Book_placementAt σ x0 = RES
  refine met_of (own := R_Book) (by decide) rfl nwl_ok ?_
  intro p e s m below meth c hC hin hB
  have hx := hC.1
  have hb := hC.2.1
  have hl := lv_entry ([.ref (G 0 4), .int x0]) (n := 2) (Nat.le_of_ble_eq_true rfl)
  rw [lg_entry_eq]
  generalize (lg_sl ([.ref (G 0 4), .int x0]) ++ List.replicate (2 - (lg_sl ([.ref (G 0 4), .int x0])).length) Slot.unset).toArray = ls at hl ⊢
  have hl : lv_has ls 2 [(0, .ref (G 0 4)), (1, .int x0)] := hl
  rw [m_Book_placementAt] at hR
  refine lv_aload_n hx hb d_Book_placementAt_0 rfl (lv_at hl 0 rfl) ?_
  refine gt hC hB _ lkC_Book rfl i_Book 2 (by decide) rfl kw_107 rfl d_Book_placementAt_1 ?_
  refine lv_iload_n hx hb d_Book_placementAt_4 rfl (lv_at hl 1 rfl) ?_
  refine kSN hC hB (c_ST_read 1 (by decide) σ π x0) allw_ok mf_ST_read kw_217 nw_2 ⟨rfl, rfl, Nat.le_of_ble_eq_true rfl, Nat.le_of_ble_eq_true rfl⟩ rfl rfl hl.1 (Nat.le_of_ble_eq_true rfl) d_Book_placementAt_5 ⟨Nat.le_of_ble_eq_true rfl, Nat.le_of_ble_eq_true rfl⟩ (roK fun H locs hB => ?_)
  subst hR
  exact ri hC hB rfl d_Book_placementAt_8

set_option maxHeartbeats 400000 in
set_option maxRecDepth 100000 in
theorem c_Book_pageAbove  (σ : SC) (π : PJ) (x0 : Int32) : CM l y_Book_pageAbove b_Book_pageAbove 2 (some .int) { frames := 1, cells := 0, slots := 0, locals := 21 } D (tyL cI cL cQ) N0 N1 [.ref (G 0 4), .int x0] (wsC G cI cL cQ σ π rest) (some (.int (m_Book_pageAbove σ x0))) (fun w => w = wsC G cI cL cQ σ π rest) 0 0 := by
  generalize hR : m_Book_pageAbove σ x0 = RES
  refine met_of (own := R_Book) (by decide) rfl nwl_ok ?_
  intro p e s m below meth c hC hin hB
  have hx := hC.1
  have hb := hC.2.1
  have hl := lv_entry ([.ref (G 0 4), .int x0]) (n := 2) (Nat.le_of_ble_eq_true rfl)
  rw [lg_entry_eq]
  generalize (lg_sl ([.ref (G 0 4), .int x0]) ++ List.replicate (2 - (lg_sl ([.ref (G 0 4), .int x0])).length) Slot.unset).toArray = ls at hl ⊢
  have hl : lv_has ls 2 [(0, .ref (G 0 4)), (1, .int x0)] := hl
  rw [m_Book_pageAbove] at hR
  refine lv_aload_n hx hb d_Book_pageAbove_0 rfl (lv_at hl 0 rfl) ?_
  refine gt hC hB _ lkC_Book rfl i_Book 3 (by decide) rfl kw_108 rfl d_Book_pageAbove_1 ?_
  refine lv_iload_n hx hb d_Book_pageAbove_4 rfl (lv_at hl 1 rfl) ?_
  refine kSN hC hB (c_ST_read 2 (by decide) σ π x0) allw_ok mf_ST_read kw_217 nw_2 ⟨rfl, rfl, Nat.le_of_ble_eq_true rfl, Nat.le_of_ble_eq_true rfl⟩ rfl rfl hl.1 (Nat.le_of_ble_eq_true rfl) d_Book_pageAbove_5 ⟨Nat.le_of_ble_eq_true rfl, Nat.le_of_ble_eq_true rfl⟩ (roK fun H locs hB => ?_)
  subst hR
  exact ri hC hB rfl d_Book_pageAbove_8

set_option maxHeartbeats 400000 in
set_option maxRecDepth 100000 in
theorem c_Book_depthAt  (σ : SC) (π : PJ) (x0 : Int32) : CM l y_Book_depthAt b_Book_depthAt 2 (some .int) { frames := 1, cells := 0, slots := 0, locals := 21 } D (tyL cI cL cQ) N0 N1 [.ref (G 0 4), .int x0] (wsC G cI cL cQ σ π rest) (some (.int (m_Book_depthAt σ x0))) (fun w => w = wsC G cI cL cQ σ π rest) 0 0 := by
  generalize hR : m_Book_depthAt σ x0 = RES
  refine met_of (own := R_Book) (by decide) rfl nwl_ok ?_
  intro p e s m below meth c hC hin hB
  have hx := hC.1
  have hb := hC.2.1
  have hl := lv_entry ([.ref (G 0 4), .int x0]) (n := 2) (Nat.le_of_ble_eq_true rfl)
  rw [lg_entry_eq]
  generalize (lg_sl ([.ref (G 0 4), .int x0]) ++ List.replicate (2 - (lg_sl ([.ref (G 0 4), .int x0])).length) Slot.unset).toArray = ls at hl ⊢
  have hl : lv_has ls 2 [(0, .ref (G 0 4)), (1, .int x0)] := hl
  rw [m_Book_depthAt] at hR
  refine lv_aload_n hx hb d_Book_depthAt_0 rfl (lv_at hl 0 rfl) ?_
  refine gt hC hB _ lkC_Book rfl i_Book 4 (by decide) rfl kw_109 rfl d_Book_depthAt_1 ?_
  refine lv_iload_n hx hb d_Book_depthAt_4 rfl (lv_at hl 1 rfl) ?_
  refine kSN hC hB (c_ST_read 3 (by decide) σ π x0) allw_ok mf_ST_read kw_217 nw_2 ⟨rfl, rfl, Nat.le_of_ble_eq_true rfl, Nat.le_of_ble_eq_true rfl⟩ rfl rfl hl.1 (Nat.le_of_ble_eq_true rfl) d_Book_depthAt_5 ⟨Nat.le_of_ble_eq_true rfl, Nat.le_of_ble_eq_true rfl⟩ (roK fun H locs hB => ?_)
  subst hR
  exact ri hC hB rfl d_Book_depthAt_8

set_option maxHeartbeats 400000 in
set_option maxRecDepth 100000 in
theorem c_Book_comingAt  (σ : SC) (π : PJ) (x0 : Int32) : CM l y_Book_comingAt b_Book_comingAt 2 (some .int) { frames := 1, cells := 0, slots := 0, locals := 21 } D (tyL cI cL cQ) N0 N1 [.ref (G 0 4), .int x0] (wsC G cI cL cQ σ π rest) (some (.int (m_Book_comingAt σ x0))) (fun w => w = wsC G cI cL cQ σ π rest) 0 0 := by
  generalize hR : m_Book_comingAt σ x0 = RES
  refine met_of (own := R_Book) (by decide) rfl nwl_ok ?_
  intro p e s m below meth c hC hin hB
  have hx := hC.1
  have hb := hC.2.1
  have hl := lv_entry ([.ref (G 0 4), .int x0]) (n := 2) (Nat.le_of_ble_eq_true rfl)
  rw [lg_entry_eq]
  generalize (lg_sl ([.ref (G 0 4), .int x0]) ++ List.replicate (2 - (lg_sl ([.ref (G 0 4), .int x0])).length) Slot.unset).toArray = ls at hl ⊢
  have hl : lv_has ls 2 [(0, .ref (G 0 4)), (1, .int x0)] := hl
  rw [m_Book_comingAt] at hR
  refine lv_aload_n hx hb d_Book_comingAt_0 rfl (lv_at hl 0 rfl) ?_
  refine gt hC hB _ lkC_Book rfl i_Book 5 (by decide) rfl kw_110 rfl d_Book_comingAt_1 ?_
  refine lv_iload_n hx hb d_Book_comingAt_4 rfl (lv_at hl 1 rfl) ?_
  refine kSN hC hB (c_ST_read 4 (by decide) σ π x0) allw_ok mf_ST_read kw_217 nw_2 ⟨rfl, rfl, Nat.le_of_ble_eq_true rfl, Nat.le_of_ble_eq_true rfl⟩ rfl rfl hl.1 (Nat.le_of_ble_eq_true rfl) d_Book_comingAt_5 ⟨Nat.le_of_ble_eq_true rfl, Nat.le_of_ble_eq_true rfl⟩ (roK fun H locs hB => ?_)
  subst hR
  exact ri hC hB rfl d_Book_comingAt_8

set_option maxHeartbeats 400000 in
set_option maxRecDepth 100000 in
theorem c_Book_comingsOf  (σ : SC) (π : PJ) (x0 : Int32) : CM l y_Book_comingsOf b_Book_comingsOf 2 (some .int) { frames := 1, cells := 0, slots := 0, locals := 21 } D (tyL cI cL cQ) N0 N1 [.ref (G 0 4), .int x0] (wsC G cI cL cQ σ π rest) (some (.int (m_Book_comingsOf σ x0))) (fun w => w = wsC G cI cL cQ σ π rest) 0 0 := by
  generalize hR : m_Book_comingsOf σ x0 = RES
  refine met_of (own := R_Book) (by decide) rfl nwl_ok ?_
  intro p e s m below meth c hC hin hB
  have hx := hC.1
  have hb := hC.2.1
  have hl := lv_entry ([.ref (G 0 4), .int x0]) (n := 2) (Nat.le_of_ble_eq_true rfl)
  rw [lg_entry_eq]
  generalize (lg_sl ([.ref (G 0 4), .int x0]) ++ List.replicate (2 - (lg_sl ([.ref (G 0 4), .int x0])).length) Slot.unset).toArray = ls at hl ⊢
  have hl : lv_has ls 2 [(0, .ref (G 0 4)), (1, .int x0)] := hl
  rw [m_Book_comingsOf] at hR
  refine lv_aload_n hx hb d_Book_comingsOf_0 rfl (lv_at hl 0 rfl) ?_
  refine gt hC hB _ lkC_Book rfl i_Book 6 (by decide) rfl kw_111 rfl d_Book_comingsOf_1 ?_
  refine lv_iload_n hx hb d_Book_comingsOf_4 rfl (lv_at hl 1 rfl) ?_
  refine kSN hC hB (c_ST_read 5 (by decide) σ π x0) allw_ok mf_ST_read kw_217 nw_2 ⟨rfl, rfl, Nat.le_of_ble_eq_true rfl, Nat.le_of_ble_eq_true rfl⟩ rfl rfl hl.1 (Nat.le_of_ble_eq_true rfl) d_Book_comingsOf_5 ⟨Nat.le_of_ble_eq_true rfl, Nat.le_of_ble_eq_true rfl⟩ (roK fun H locs hB => ?_)
  refine lv_iconst (v := 0) hx hb d_Book_comingsOf_8 (by decide) ?_
  refine va_mmax hx hb (hC.2.2.2.1.trans hl.1.symm) hC.2.2.2.2.1 (hC.2.2.2.2.2.1 _ kw_219) (hC.2.2.2.2.2.1 _ kw_62) (hC.2.2.2.2.2.1 _ kw_5) (hC.2.2.2.2.2.1 _ kw_63) (Nat.le_of_ble_eq_true rfl) (Nat.le_of_ble_eq_true rfl) (Nat.le_of_ble_eq_true rfl) (Nat.le_of_ble_eq_true rfl) d_Book_comingsOf_9 ?_
  subst hR
  exact ri hC hB rfl d_Book_comingsOf_12

set_option maxHeartbeats 400000 in
set_option maxRecDepth 100000 in
theorem c_Book_addPage  (σ : SC) (π : PJ) (x0 : Int32) (x1 : Int32) (x2 : Int32) (x3 : Int32) : CM l y_Book_addPage b_Book_addPage 6 (some .int) { frames := 2, cells := 0, slots := 0, locals := 42 } D (tyL cI cL cQ) N0 N0 [.ref (G 0 4), .int x0, .int x1, .int x2, .int x3] (wsC G cI cL cQ σ π rest) (some (.int ((m_Book_addPage σ x0 x1 x2 x3).1))) (fun w => w = wsC G cI cL cQ ((m_Book_addPage σ x0 x1 x2 x3).2) π rest) 0 0 := by
  generalize hR : m_Book_addPage σ x0 x1 x2 x3 = RES
  obtain ⟨RV, RS⟩ := RES
  dsimp only
  refine met_of (own := R_Book) (by decide) rfl nwl_ok ?_
  intro p e s m below meth c hC hin hB
  have hx := hC.1
  have hb := hC.2.1
  have hl := lv_entry ([.ref (G 0 4), .int x0, .int x1, .int x2, .int x3]) (n := 6) (Nat.le_of_ble_eq_true rfl)
  rw [lg_entry_eq]
  generalize (lg_sl ([.ref (G 0 4), .int x0, .int x1, .int x2, .int x3]) ++ List.replicate (6 - (lg_sl ([.ref (G 0 4), .int x0, .int x1, .int x2, .int x3])).length) Slot.unset).toArray = ls at hl ⊢
  have hl : lv_has ls 6 [(0, .ref (G 0 4)), (1, .int x0), (2, .int x1), (3, .int x2), (4, .int x3)] := hl
  rw [m_Book_addPage] at hR
  refine lv_aload_n hx hb d_Book_addPage_0 rfl (lv_at hl 0 rfl) ?_
  refine gt (v := .int (xn σ 2)) hC hB _ lkC_Book rfl i_Book 7 (by decide) rfl kw_112 rfl d_Book_addPage_1 ?_
  refine lv_istore (lv' := [(5, .int (xn σ 2)), (0, .ref (G 0 4)), (1, .int x0), (2, .int x1), (3, .int x2), (4, .int x3)]) hx hb d_Book_addPage_4 hl (by decide) rfl (fun ls hl => ?_)
  refine lv_aload_n hx hb d_Book_addPage_6 rfl (lv_at hl 1 rfl) ?_
  refine gt hC hB _ lkC_Book rfl i_Book 1 (by decide) rfl kw_106 rfl d_Book_addPage_7 ?_
  refine lv_iload hx hb d_Book_addPage_10 (lv_at hl 0 rfl) ?_
  refine lv_iload_n hx hb d_Book_addPage_12 rfl (lv_at hl 2 rfl) ?_
  refine kSN hC hB (c_ST_write 0 (by decide) σ π (xn σ 2) x0) allw_ok mf_ST_write kw_210 nw_1 ⟨rfl, rfl, Nat.le_of_ble_eq_true rfl, Nat.le_of_ble_eq_true rfl⟩ rfl rfl hl.1 (Nat.le_of_ble_eq_true rfl) d_Book_addPage_13 ⟨Nat.le_of_ble_eq_true rfl, Nat.le_of_ble_eq_true rfl⟩ (roK fun H locs hB => ?_)
  refine lv_aload_n hx hb d_Book_addPage_16 rfl (lv_at hl 1 rfl) ?_
  refine gt hC hB _ lkC_Book rfl i_Book 2 (by decide) rfl kw_107 rfl d_Book_addPage_17 ?_
  refine lv_iload hx hb d_Book_addPage_20 (lv_at hl 0 rfl) ?_
  refine lv_iload_n hx hb d_Book_addPage_22 rfl (lv_at hl 3 rfl) ?_
  refine kSN hC hB (c_ST_write 1 (by decide) (m_ST_write σ 0 (xn σ 2) x0) π (xn σ 2) x1) allw_ok mf_ST_write kw_210 nw_1 ⟨rfl, rfl, Nat.le_of_ble_eq_true rfl, Nat.le_of_ble_eq_true rfl⟩ rfl rfl hl.1 (Nat.le_of_ble_eq_true rfl) d_Book_addPage_23 ⟨Nat.le_of_ble_eq_true rfl, Nat.le_of_ble_eq_true rfl⟩ (roK fun H locs hB => ?_)
  refine lv_aload_n hx hb d_Book_addPage_26 rfl (lv_at hl 1 rfl) ?_
  refine gt hC hB _ lkC_Book rfl i_Book 3 (by decide) rfl kw_108 rfl d_Book_addPage_27 ?_
  refine lv_iload hx hb d_Book_addPage_30 (lv_at hl 0 rfl) ?_
  refine lv_iload_n hx hb d_Book_addPage_32 rfl (lv_at hl 4 rfl) ?_
  refine kSN hC hB (c_ST_write 2 (by decide) (m_ST_write (m_ST_write σ 0 (xn σ 2) x0) 1 (xn σ 2) x1) π (xn σ 2) x2) allw_ok mf_ST_write kw_210 nw_1 ⟨rfl, rfl, Nat.le_of_ble_eq_true rfl, Nat.le_of_ble_eq_true rfl⟩ rfl rfl hl.1 (Nat.le_of_ble_eq_true rfl) d_Book_addPage_33 ⟨Nat.le_of_ble_eq_true rfl, Nat.le_of_ble_eq_true rfl⟩ (roK fun H locs hB => ?_)
  refine lv_aload_n hx hb d_Book_addPage_36 rfl (lv_at hl 1 rfl) ?_
  refine gt hC hB _ lkC_Book rfl i_Book 4 (by decide) rfl kw_109 rfl d_Book_addPage_37 ?_
  refine lv_iload hx hb d_Book_addPage_40 (lv_at hl 0 rfl) ?_
  refine lv_iload hx hb d_Book_addPage_42 (lv_at hl 5 rfl) ?_
  refine kSN hC hB (c_ST_write 3 (by decide) (m_ST_write (m_ST_write (m_ST_write σ 0 (xn σ 2) x0) 1 (xn σ 2) x1) 2 (xn σ 2) x2) π (xn σ 2) x3) allw_ok mf_ST_write kw_210 nw_1 ⟨rfl, rfl, Nat.le_of_ble_eq_true rfl, Nat.le_of_ble_eq_true rfl⟩ rfl rfl hl.1 (Nat.le_of_ble_eq_true rfl) d_Book_addPage_44 ⟨Nat.le_of_ble_eq_true rfl, Nat.le_of_ble_eq_true rfl⟩ (roK fun H locs hB => ?_)
  refine lv_aload_n hx hb d_Book_addPage_47 rfl (lv_at hl 1 rfl) ?_
  refine gt hC hB _ lkC_Book rfl i_Book 5 (by decide) rfl kw_110 rfl d_Book_addPage_48 ?_
  refine lv_iload hx hb d_Book_addPage_51 (lv_at hl 0 rfl) ?_
  refine lv_aload_n hx hb d_Book_addPage_53 rfl (lv_at hl 1 rfl) ?_
  refine lv_iload_n hx hb d_Book_addPage_54 rfl (lv_at hl 2 rfl) ?_
  refine kV hC hB _ lkC_Book rfl (c_Book_comingsOf (m_ST_write (m_ST_write (m_ST_write (m_ST_write σ 0 (xn σ 2) x0) 1 (xn σ 2) x1) 2 (xn σ 2) x2) 3 (xn σ 2) x3) π x0) allw_ok mf_Book_comingsOf kw_213 kw_214 kw_212 ⟨rfl, rfl, Nat.le_of_ble_eq_true rfl, Nat.le_of_ble_eq_true rfl⟩ rfl rfl hl.1 (Nat.le_of_ble_eq_true rfl) d_Book_addPage_55 ⟨Nat.le_of_ble_eq_true rfl, Nat.le_of_ble_eq_true rfl⟩ (roK fun H locs hB => ?_)
  refine kSN hC hB (c_ST_write 4 (by decide) (m_ST_write (m_ST_write (m_ST_write (m_ST_write σ 0 (xn σ 2) x0) 1 (xn σ 2) x1) 2 (xn σ 2) x2) 3 (xn σ 2) x3) π (xn σ 2) (m_Book_comingsOf (m_ST_write (m_ST_write (m_ST_write (m_ST_write σ 0 (xn σ 2) x0) 1 (xn σ 2) x1) 2 (xn σ 2) x2) 3 (xn σ 2) x3) x0)) allw_ok mf_ST_write kw_210 nw_1 ⟨rfl, rfl, Nat.le_of_ble_eq_true rfl, Nat.le_of_ble_eq_true rfl⟩ rfl rfl hl.1 (Nat.le_of_ble_eq_true rfl) d_Book_addPage_58 ⟨Nat.le_of_ble_eq_true rfl, Nat.le_of_ble_eq_true rfl⟩ (roK fun H locs hB => ?_)
  refine lv_aload_n hx hb d_Book_addPage_61 rfl (lv_at hl 1 rfl) ?_
  refine gt hC hB _ lkC_Book rfl i_Book 6 (by decide) rfl kw_111 rfl d_Book_addPage_62 ?_
  refine lv_iload_n hx hb d_Book_addPage_65 rfl (lv_at hl 2 rfl) ?_
  refine lv_aload_n hx hb d_Book_addPage_66 rfl (lv_at hl 1 rfl) ?_
  refine lv_iload_n hx hb d_Book_addPage_67 rfl (lv_at hl 2 rfl) ?_
  refine kV hC hB _ lkC_Book rfl (c_Book_comingsOf (m_ST_write (m_ST_write (m_ST_write (m_ST_write (m_ST_write σ 0 (xn σ 2) x0) 1 (xn σ 2) x1) 2 (xn σ 2) x2) 3 (xn σ 2) x3) 4 (xn σ 2) (m_Book_comingsOf (m_ST_write (m_ST_write (m_ST_write (m_ST_write σ 0 (xn σ 2) x0) 1 (xn σ 2) x1) 2 (xn σ 2) x2) 3 (xn σ 2) x3) x0)) π x0) allw_ok mf_Book_comingsOf kw_213 kw_214 kw_212 ⟨rfl, rfl, Nat.le_of_ble_eq_true rfl, Nat.le_of_ble_eq_true rfl⟩ rfl rfl hl.1 (Nat.le_of_ble_eq_true rfl) d_Book_addPage_68 ⟨Nat.le_of_ble_eq_true rfl, Nat.le_of_ble_eq_true rfl⟩ (roK fun H locs hB => ?_)
  refine lv_iconst (v := 1) hx hb d_Book_addPage_71 (by decide) ?_
  refine lv_iadd hx hb d_Book_addPage_72 ?_
  refine kSN hC hB (c_ST_write 5 (by decide) (m_ST_write (m_ST_write (m_ST_write (m_ST_write (m_ST_write σ 0 (xn σ 2) x0) 1 (xn σ 2) x1) 2 (xn σ 2) x2) 3 (xn σ 2) x3) 4 (xn σ 2) (m_Book_comingsOf (m_ST_write (m_ST_write (m_ST_write (m_ST_write σ 0 (xn σ 2) x0) 1 (xn σ 2) x1) 2 (xn σ 2) x2) 3 (xn σ 2) x3) x0)) π x0 ((m_Book_comingsOf (m_ST_write (m_ST_write (m_ST_write (m_ST_write (m_ST_write σ 0 (xn σ 2) x0) 1 (xn σ 2) x1) 2 (xn σ 2) x2) 3 (xn σ 2) x3) 4 (xn σ 2) (m_Book_comingsOf (m_ST_write (m_ST_write (m_ST_write (m_ST_write σ 0 (xn σ 2) x0) 1 (xn σ 2) x1) 2 (xn σ 2) x2) 3 (xn σ 2) x3) x0)) x0) + 1)) allw_ok mf_ST_write kw_210 nw_1 ⟨rfl, rfl, Nat.le_of_ble_eq_true rfl, Nat.le_of_ble_eq_true rfl⟩ rfl rfl hl.1 (Nat.le_of_ble_eq_true rfl) d_Book_addPage_73 ⟨Nat.le_of_ble_eq_true rfl, Nat.le_of_ble_eq_true rfl⟩ (roK fun H locs hB => ?_)
  refine lv_aload_n hx hb d_Book_addPage_76 rfl (lv_at hl 1 rfl) ?_
  refine lv_dup hx hb d_Book_addPage_77 rfl ?_
  refine gt (v := .int (xn (m_ST_write (m_ST_write (m_ST_write (m_ST_write (m_ST_write (m_ST_write σ 0 (xn σ 2) x0) 1 (xn σ 2) x1) 2 (xn σ 2) x2) 3 (xn σ 2) x3) 4 (xn σ 2) (m_Book_comingsOf (m_ST_write (m_ST_write (m_ST_write (m_ST_write σ 0 (xn σ 2) x0) 1 (xn σ 2) x1) 2 (xn σ 2) x2) 3 (xn σ 2) x3) x0)) 5 x0 ((m_Book_comingsOf (m_ST_write (m_ST_write (m_ST_write (m_ST_write (m_ST_write σ 0 (xn σ 2) x0) 1 (xn σ 2) x1) 2 (xn σ 2) x2) 3 (xn σ 2) x3) 4 (xn σ 2) (m_Book_comingsOf (m_ST_write (m_ST_write (m_ST_write (m_ST_write σ 0 (xn σ 2) x0) 1 (xn σ 2) x1) 2 (xn σ 2) x2) 3 (xn σ 2) x3) x0)) x0) + 1)) 2)) hC hB _ lkC_Book rfl i_Book 7 (by decide) rfl kw_112 rfl d_Book_addPage_78 ?_
  refine lv_iconst (v := 1) hx hb d_Book_addPage_81 (by decide) ?_
  refine lv_iadd hx hb d_Book_addPage_82 ?_
  refine pt (ty := .int) rfl hC hB _ lkC_Book rfl i_Book t_Book t_Book_ok n_Book 7 (by decide) rfl rfl kw_112 (by decide +kernel) rfl rfl (Nat.le_of_ble_eq_true rfl) d_Book_addPage_83 (ws' := wsC G cI cL cQ (zn (m_ST_write (m_ST_write (m_ST_write (m_ST_write (m_ST_write (m_ST_write σ 0 (xn σ 2) x0) 1 (xn σ 2) x1) 2 (xn σ 2) x2) 3 (xn σ 2) x3) 4 (xn σ 2) (m_Book_comingsOf (m_ST_write (m_ST_write (m_ST_write (m_ST_write σ 0 (xn σ 2) x0) 1 (xn σ 2) x1) 2 (xn σ 2) x2) 3 (xn σ 2) x3) x0)) 5 x0 ((m_Book_comingsOf (m_ST_write (m_ST_write (m_ST_write (m_ST_write (m_ST_write σ 0 (xn σ 2) x0) 1 (xn σ 2) x1) 2 (xn σ 2) x2) 3 (xn σ 2) x3) 4 (xn σ 2) (m_Book_comingsOf (m_ST_write (m_ST_write (m_ST_write (m_ST_write σ 0 (xn σ 2) x0) 1 (xn σ 2) x1) 2 (xn σ 2) x2) 3 (xn σ 2) x3) x0)) x0) + 1)) 2 ((xn (m_ST_write (m_ST_write (m_ST_write (m_ST_write (m_ST_write (m_ST_write σ 0 (xn σ 2) x0) 1 (xn σ 2) x1) 2 (xn σ 2) x2) 3 (xn σ 2) x3) 4 (xn σ 2) (m_Book_comingsOf (m_ST_write (m_ST_write (m_ST_write (m_ST_write σ 0 (xn σ 2) x0) 1 (xn σ 2) x1) 2 (xn σ 2) x2) 3 (xn σ 2) x3) x0)) 5 x0 ((m_Book_comingsOf (m_ST_write (m_ST_write (m_ST_write (m_ST_write (m_ST_write σ 0 (xn σ 2) x0) 1 (xn σ 2) x1) 2 (xn σ 2) x2) 3 (xn σ 2) x3) 4 (xn σ 2) (m_Book_comingsOf (m_ST_write (m_ST_write (m_ST_write (m_ST_write σ 0 (xn σ 2) x0) 1 (xn σ 2) x1) 2 (xn σ 2) x2) 3 (xn σ 2) x3) x0)) x0) + 1)) 2) + 1)) π rest) setC_n2 (fun H locs hB => ?_)
  refine lv_iload hx hb d_Book_addPage_86 (lv_at hl 0 rfl) ?_
  obtain ⟨rfl, rfl⟩ := Prod.mk.inj hR
  exact ri hC hB rfl d_Book_addPage_88

set_option maxHeartbeats 400000 in
set_option maxRecDepth 100000 in
theorem w_Book_pageOfComing_2 {p : Program} {e : Env} {s : State} {m : MethodId} {args : Array Value} {below : List Frame} {meth : Method} {c : Code} {RES : Int32}  (σ : SC) (π : PJ) (hC : cx D classes (tyL cI cL cQ) NWL ALLW N1 p s m args meth c b_Book_pageOfComing 4 (some .int) R_Book) :
    ∀ (n : Nat) (v1 : Int32) (v2 : Int32) (v3 : Int32), upI n (xn σ 2) v3 → lp_Book_pageOfComing_2 n σ  v1 v2 v3 = RES → ∀ (H : Heap) (locs : List Loc), bd D classes N0 N1 (wsC G cI cL cQ σ π rest) s H locs → ∀ (ls : Array Slot), lv_has ls 4 [(0, .ref (G 0 4)), (1, .int v1), (2, .int v2), (3, .int v3)] → W p l e { frames := 2, cells := 0, slots := 0, locals := 42 } s m args below meth c H locs 0 0 (MQ below (qx D classes N0 N1 (some (.int RES)) (fun w => w = wsC G cI cL cQ σ π rest)) args s 0 0 (ga N1)) (F0 m 2 ls []) := by
  have hx := hC.1
  have hb := hC.2.1
  intro n
  induction n with
  | zero =>
    intro v1 v2 v3 hI
    exact absurd hI up_zero
  | succ n ih =>
    intro v1 v2 v3 hI hR H locs hB ls hl
    rw [lp_Book_pageOfComing_2] at hR
    refine lv_iload_n hx hb d_Book_pageOfComing_2 rfl (lv_at hl 3 rfl) ?_
    refine lv_aload_n hx hb d_Book_pageOfComing_3 rfl (lv_at hl 0 rfl) ?_
    refine gt (v := .int (xn σ 2)) hC hB _ lkC_Book rfl i_Book 7 (by decide) rfl kw_112 rfl d_Book_pageOfComing_4 ?_
    refine lv_icmp_ge (tgt := 36) hx hb d_Book_pageOfComing_7 (by decide) (fun c_1 => ?_) (fun c_1 => ?_)
    · rw [if_pos c_1] at hR
      refine lv_iconst (v := (-1)) hx hb d_Book_pageOfComing_36 (by decide) ?_
      subst hR
      exact ri hC hB rfl d_Book_pageOfComing_37
    · rw [if_neg c_1] at hR
      refine lv_aload_n hx hb d_Book_pageOfComing_10 rfl (lv_at hl 0 rfl) ?_
      refine lv_iload_n hx hb d_Book_pageOfComing_11 rfl (lv_at hl 3 rfl) ?_
      refine kV hC hB _ lkC_Book rfl (c_Book_sheetAt σ π v3) allw_ok mf_Book_sheetAt kw_221 kw_222 kw_220 ⟨rfl, rfl, Nat.le_of_ble_eq_true rfl, Nat.le_of_ble_eq_true rfl⟩ rfl rfl hl.1 (Nat.le_of_ble_eq_true rfl) d_Book_pageOfComing_12 ⟨Nat.le_of_ble_eq_true rfl, Nat.le_of_ble_eq_true rfl⟩ (roK fun H locs hB => ?_)
      refine lv_iload_n hx hb d_Book_pageOfComing_15 rfl (lv_at hl 1 rfl) ?_
      refine lv_icmp_ne (tgt := 30) hx hb d_Book_pageOfComing_16 (by decide) (fun c_2 => ?_) (fun c_2 => ?_)
      · rw [if_neg c_2] at hR
        refine lv_iinc (v := (v3 + 1)) (lv' := [(3, .int (v3 + 1)), (0, .ref (G 0 4)), (1, .int v1), (2, .int v2)]) hx hb d_Book_pageOfComing_30 hl (k := 3) rfl rfl (by decide) rfl (fun ls hl => ?_)
        refine lv_goto (tgt := 2) hx hb d_Book_pageOfComing_33 (by decide) ?_
        exact ih v1 v2 (v3 + 1) (up_step hI (by assumption)) hR _ _ hB ls (lv_sub hl [1, 2, 3, 0] rfl)
      · rw [if_pos c_2] at hR
        refine lv_aload_n hx hb d_Book_pageOfComing_19 rfl (lv_at hl 0 rfl) ?_
        refine lv_iload_n hx hb d_Book_pageOfComing_20 rfl (lv_at hl 3 rfl) ?_
        refine kV hC hB _ lkC_Book rfl (c_Book_comingAt σ π v3) allw_ok mf_Book_comingAt kw_862 kw_863 kw_861 ⟨rfl, rfl, Nat.le_of_ble_eq_true rfl, Nat.le_of_ble_eq_true rfl⟩ rfl rfl hl.1 (Nat.le_of_ble_eq_true rfl) d_Book_pageOfComing_21 ⟨Nat.le_of_ble_eq_true rfl, Nat.le_of_ble_eq_true rfl⟩ (roK fun H locs hB => ?_)
        refine lv_iload_n hx hb d_Book_pageOfComing_24 rfl (lv_at hl 2 rfl) ?_
        refine lv_icmp_ne (tgt := 30) hx hb d_Book_pageOfComing_25 (by decide) (fun c_3 => ?_) (fun c_3 => ?_)
        · rw [if_neg c_3] at hR
          refine lv_iinc (v := (v3 + 1)) (lv' := [(3, .int (v3 + 1)), (0, .ref (G 0 4)), (1, .int v1), (2, .int v2)]) hx hb d_Book_pageOfComing_30 hl (k := 3) rfl rfl (by decide) rfl (fun ls hl => ?_)
          refine lv_goto (tgt := 2) hx hb d_Book_pageOfComing_33 (by decide) ?_
          exact ih v1 v2 (v3 + 1) (up_step hI (by assumption)) hR _ _ hB ls (lv_sub hl [1, 2, 3, 0] rfl)
        · rw [if_pos c_3] at hR
          refine lv_iload_n hx hb d_Book_pageOfComing_28 rfl (lv_at hl 3 rfl) ?_
          subst hR
          exact ri hC hB rfl d_Book_pageOfComing_29

set_option maxHeartbeats 400000 in
set_option maxRecDepth 100000 in
theorem c_Book_pageOfComing  (σ : SC) (π : PJ) (x0 : Int32) (x1 : Int32) : CM l y_Book_pageOfComing b_Book_pageOfComing 4 (some .int) { frames := 2, cells := 0, slots := 0, locals := 42 } D (tyL cI cL cQ) N0 N1 [.ref (G 0 4), .int x0, .int x1] (wsC G cI cL cQ σ π rest) (some (.int (m_Book_pageOfComing σ x0 x1))) (fun w => w = wsC G cI cL cQ σ π rest) 0 0 := by
  generalize hR : m_Book_pageOfComing σ x0 x1 = RES
  refine met_of (own := R_Book) (by decide) rfl nwl_ok ?_
  intro p e s m below meth c hC hin hB
  have hx := hC.1
  have hb := hC.2.1
  have hl := lv_entry ([.ref (G 0 4), .int x0, .int x1]) (n := 4) (Nat.le_of_ble_eq_true rfl)
  rw [lg_entry_eq]
  generalize (lg_sl ([.ref (G 0 4), .int x0, .int x1]) ++ List.replicate (4 - (lg_sl ([.ref (G 0 4), .int x0, .int x1])).length) Slot.unset).toArray = ls at hl ⊢
  have hl : lv_has ls 4 [(0, .ref (G 0 4)), (1, .int x0), (2, .int x1)] := hl
  rw [m_Book_pageOfComing] at hR
  refine lv_iconst (v := 0) hx hb d_Book_pageOfComing_0 (by decide) ?_
  refine lv_istore_n (lv' := [(3, .int 0), (0, .ref (G 0 4)), (1, .int x0), (2, .int x1)]) hx hb d_Book_pageOfComing_1 rfl hl (by decide) rfl (fun ls hl => ?_)
  exact w_Book_pageOfComing_2  σ π hC ((xn σ 2).toNatClampNeg + 1) x0 x1 0 (up_init _) hR _ _ hB ls (lv_sub hl [1, 2, 3, 0] rfl)
end SC
