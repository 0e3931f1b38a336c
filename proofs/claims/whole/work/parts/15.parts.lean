def m_Parts_isPart (σ : SC) (x0 : Int32) : Bool :=
  if x0 < 0 then
    false
  else
    if (m_Row_at σ 6 0) ≤ x0 then
      false
    else
      true

def m_Parts_partsLeft (σ : SC) : Int32 :=
  (30 - (m_Row_at σ 6 0))

def m_Parts_letterOf (σ : SC) (x0 : Int32) : Int32 :=
  (m_Row_at σ 7 x0)

def m_Parts_gateCount (σ : SC) (x0 : Int32) : Int32 :=
  (m_Row_at σ 8 x0)

def m_Parts_sheetOfGate (σ : SC) (x0 : Int32) (x1 : Int32) : Int32 :=
  (m_Row_at σ 9 ((x0 * 8) + x1))

def m_Parts_gatesOn (σ : SC) (x0 : Int32) : Int32 :=
  (m_Row_at σ 11 x0)

def m_Parts_gateAt (σ : SC) (x0 : Int32) (x1 : Int32) : Int32 :=
  (m_Row_at σ 10 ((x0 * 20) + x1))

def m_Parts_partAt (σ : SC) (x0 : Int32) (x1 : Int32) : Int32 :=
  ((m_Parts_gateAt σ x0 x1) / 8)

def lp_Parts_unitCount_4 : Nat → SC → Int32 → Int32 → Int32 → Int32
  | 0, σ, _, _, _ => 0
  | n + 1, σ, v1, v2, v3 =>
    if (m_Parts_gateCount σ v1) ≤ v3 then
      v2
    else
      lp_Parts_unitCount_4 n σ v1 (if v2 < (m_Book_comingsOf σ (m_Parts_sheetOfGate σ v1 v3)) then (m_Book_comingsOf σ (m_Parts_sheetOfGate σ v1 v3)) else v2) (v3 + 1)

def m_Parts_unitCount (σ : SC) (x0 : Int32) : Int32 :=
  lp_Parts_unitCount_4 ((m_Parts_gateCount σ x0).toNatClampNeg + 1) σ x0 0 0

def lp_Parts_partsOn_12 : Nat → SC → Int32 → Int32 → Int32 → Int32 × SC
  | 0, σ, _, _, _ => (0, σ)
  | n + 1, σ, v1, v2, v3 =>
    if (m_Parts_gatesOn σ v1) ≤ v3 then
      (v2, σ)
    else
      if (m_ST_read σ 6 (m_Parts_partAt σ v1 v3)) = (-1) then
        lp_Parts_partsOn_12 n (m_ST_write σ 6 (m_Parts_partAt σ v1 v3) (m_Parts_partAt σ v1 v3)) v1 (v2 + 1) (v3 + 1)
      else
        lp_Parts_partsOn_12 n σ v1 v2 (v3 + 1)

def m_Parts_partsOn (σ : SC) (x0 : Int32) : Int32 × SC :=
  lp_Parts_partsOn_12 ((m_Parts_gatesOn (m_Arrays_fillI σ 6 (-1)) x0).toNatClampNeg + 1) (m_Arrays_fillI σ 6 (-1)) x0 0 0

def lp_Parts_newUnitsAt_26 : Nat → SC → Int32 → Int32 → Int32 → Int32 → Int32 → Int32 → Int32 → Int32 × SC
  | 0, σ, _, _, _, _, _, _, _ => (0, σ)
  | n + 1, σ, v1, v2, v3, v4, v5, v6, v7 =>
    if (m_Parts_gatesOn σ v4) ≤ v7 then
      (v6, σ)
    else
      if (m_Parts_letterOf σ (m_Parts_partAt σ v4 v7)) = (m_Parts_letterOf σ v2) then
        if (m_ST_read σ 6 (m_Parts_partAt σ v4 v7)) = v5 then
          if (m_Parts_partAt σ v4 v7) = v2 then
            if v5 = v3 then
              ((v6 + 1), (m_ST_write σ 6 (m_Parts_partAt σ v4 v7) (v5 + 1)))
            else
              lp_Parts_newUnitsAt_26 n (m_ST_write σ 6 (m_Parts_partAt σ v4 v7) (v5 + 1)) v1 v2 v3 v4 v5 (v6 + 1) (v7 + 1)
          else
            lp_Parts_newUnitsAt_26 n (m_ST_write σ 6 (m_Parts_partAt σ v4 v7) (v5 + 1)) v1 v2 v3 v4 v5 (v6 + 1) (v7 + 1)
        else
          lp_Parts_newUnitsAt_26 n σ v1 v2 v3 v4 v5 v6 (v7 + 1)
      else
        lp_Parts_newUnitsAt_26 n σ v1 v2 v3 v4 v5 v6 (v7 + 1)

def m_Parts_newUnitsAt (σ : SC) (x0 : Int32) (x1 : Int32) (x2 : Int32) : Int32 × SC :=
  lp_Parts_newUnitsAt_26 ((m_Parts_gatesOn σ (m_Book_sheetAt σ x0)).toNatClampNeg + 1) σ x0 x1 x2 (m_Book_sheetAt σ x0) (m_Book_comingAt σ x0) 0 0

def lp_Parts_numberOf_14 : Nat → SC → Int32 → Int32 → Bool → Int32 → Int32 → Int32 × SC
  | 0, σ, _, _, _, _, _ => (0, σ)
  | n + 1, σ, v1, v2, v3, v4, v5 =>
    if (m_Book_count σ) ≤ v5 then
      ((-1), σ)
    else
      if (bi v3) = 0 then
        if (m_ST_read ((m_Parts_newUnitsAt σ v5 v1 v2).2) 6 v1) ≤ v2 then
          lp_Parts_numberOf_14 n ((m_Parts_newUnitsAt σ v5 v1 v2).2) v1 v2 v3 (v4 + (m_Parts_newUnitsAt σ v5 v1 v2).1) (v5 + 1)
        else
          ((v4 + (m_Parts_newUnitsAt σ v5 v1 v2).1), (m_Parts_newUnitsAt σ v5 v1 v2).2)
      else
        if (m_ST_read ((m_Parts_newUnitsAt σ v5 v1 v2).2) 6 v1) ≤ v2 then
          lp_Parts_numberOf_14 n ((m_Parts_newUnitsAt σ v5 v1 v2).2) v1 v2 v3 ((v5 * 100) + (m_Parts_newUnitsAt σ v5 v1 v2).1) (v5 + 1)
        else
          (((v5 * 100) + (m_Parts_newUnitsAt σ v5 v1 v2).1), (m_Parts_newUnitsAt σ v5 v1 v2).2)

def m_Parts_numberOf (σ : SC) (x0 : Int32) (x1 : Int32) (x2 : Bool) : Int32 × SC :=
  lp_Parts_numberOf_14 ((m_Book_count (m_Arrays_fillI σ 6 0)).toNatClampNeg + 1) (m_Arrays_fillI σ 6 0) x0 x1 x2 0 0

def m_Parts_addPart (σ : SC) (x0 : Int32) (x1 : Int32) : Int32 × SC :=
  ((m_Row_at σ 6 0), (m_Row_set (m_Row_set (m_Row_set σ 6 0 (((m_Row_at σ 6 0) + 1).toInt64)) 7 (m_Row_at σ 6 0) x0.toInt64) 8 (m_Row_at σ 6 0) x1.toInt64))

def m_Parts_layGate (σ : SC) (x0 : Int32) (x1 : Int32) (x2 : Int32) : SC :=
  (m_Row_set (m_Row_set (m_Row_set σ 9 ((x1 * 8) + x2) x0.toInt64) 10 ((x0 * 20) + (m_Parts_gatesOn σ x0)) (((x1 * 8) + x2).toInt64)) 11 x0 (((m_Parts_gatesOn σ x0) + 1).toInt64))

/-! what stays where marks are written -/
theorem fr_write (σ : SC) (j : Nat) (x y : Int32) : (m_ST_write σ j x y).1 = σ.1 ∧ (m_ST_write σ j x y).2.2 = σ.2.2 := by
  unfold m_ST_write
  split
  · exact ⟨rfl, rfl⟩
  · split <;> exact ⟨rfl, rfl⟩
theorem at_c {σ σ' : SC} (h : σ'.1 = σ.1) (k : Nat) (i : Int32) : m_Row_at σ' k i = m_Row_at σ k i := by
  unfold m_Row_at xL
  rw [h]
theorem gO_w (σ : SC) (j : Nat) (x y s : Int32) : m_Parts_gatesOn (m_ST_write σ j x y) s = m_Parts_gatesOn σ s := by
  unfold m_Parts_gatesOn
  exact at_c (fr_write σ j x y).1 _ _
theorem fr_nu : ∀ (n : Nat) (σ : SC) (v1 v2 v3 v4 v5 v6 v7 : Int32), (lp_Parts_newUnitsAt_26 n σ v1 v2 v3 v4 v5 v6 v7).2.1 = σ.1 ∧ (lp_Parts_newUnitsAt_26 n σ v1 v2 v3 v4 v5 v6 v7).2.2.2 = σ.2.2
  | 0, _, _, _, _, _, _, _, _ => ⟨rfl, rfl⟩
  | n + 1, σ, v1, v2, v3, v4, v5, v6, v7 => by
    have hw := fr_write σ 6 (m_Parts_partAt σ v4 v7) (v5 + 1)
    rw [lp_Parts_newUnitsAt_26]
    repeat' split
    all_goals first | exact ⟨rfl, rfl⟩ | exact fr_nu n _ _ _ _ _ _ _ _ | exact hw | exact ⟨(fr_nu n _ _ _ _ _ _ _ _).1.trans hw.1, (fr_nu n _ _ _ _ _ _ _ _).2.trans hw.2⟩
theorem bC_n (σ : SC) (x y z : Int32) : m_Book_count (m_Parts_newUnitsAt σ x y z).2 = m_Book_count σ := by
  have h : (m_Parts_newUnitsAt σ x y z).2.2.2 = σ.2.2 := by
    unfold m_Parts_newUnitsAt
    exact (fr_nu _ _ _ _ _ _ _ _ _).2
  unfold m_Book_count xn
  rw [h]
section SC
variable {l : Launch} {D : va_G} {N0 N1 : Nat} {G : Nat → Nat → Nat} {cI cL cQ : ClassId} {rest : va_W}
set_option maxHeartbeats 400000 in
set_option maxRecDepth 100000 in
theorem c_Parts_isPart  (σ : SC) (π : PJ) (x0 : Int32) : CM l y_Parts_isPart b_Parts_isPart 2 (some .boolean) { frames := 1, cells := 0, slots := 0, locals := 21 } D (tyL cI cL cQ) N0 N1 [.ref (G 0 5), .int x0] (wsC G cI cL cQ σ π rest) (some (.int (bi (m_Parts_isPart σ x0)))) (fun w => w = wsC G cI cL cQ σ π rest) 0 0 := by
  generalize hR : m_Parts_isPart σ x0 = RES
  refine met_of (own := R_Parts) (by decide) rfl nwl_ok ?_
  intro p e s m below meth c hC hin hB
  have hx := hC.1
  have hb := hC.2.1
  have hl := lv_entry ([.ref (G 0 5), .int x0]) (n := 2) (Nat.le_of_ble_eq_true rfl)
  rw [lg_entry_eq]
  generalize (lg_sl ([.ref (G 0 5), .int x0]) ++ List.replicate (2 - (lg_sl ([.ref (G 0 5), .int x0])).length) Slot.unset).toArray = ls at hl ⊢
  have hl : lv_has ls 2 [(0, .ref (G 0 5)), (1, .int x0)] := hl
  rw [m_Parts_isPart] at hR
  refine lv_iload_n hx hb d_Parts_isPart_0 rfl (lv_at hl 1 rfl) ?_
  refine lv_if_lt (tgt := 20) hx hb d_Parts_isPart_1 (by decide) (fun c_1 => ?_) (fun c_1 => ?_)
  · rw [if_pos c_1] at hR
    refine lv_iconst (v := 0) hx hb d_Parts_isPart_20 (by decide) ?_
    subst hR
    exact rz (b := false) hC hB rfl d_Parts_isPart_21
  · rw [if_neg c_1] at hR
    refine lv_iload_n hx hb d_Parts_isPart_4 rfl (lv_at hl 1 rfl) ?_
    refine lv_aload_n hx hb d_Parts_isPart_5 rfl (lv_at hl 0 rfl) ?_
    refine gt hC hB _ lkC_Parts rfl i_Parts 1 (by decide) rfl kw_141 rfl d_Parts_isPart_6 ?_
    refine lv_iconst (v := 0) hx hb d_Parts_isPart_9 (by decide) ?_
    refine kV hC hB _ (lkC_row (by decide)) rfl (c_Row_at 6 (by decide) σ π 0) allw_ok mf_Row_at kw_233 kw_234 kw_613 ⟨rfl, rfl, Nat.le_of_ble_eq_true rfl, Nat.le_of_ble_eq_true rfl⟩ rfl rfl hl.1 (Nat.le_of_ble_eq_true rfl) d_Parts_isPart_10 ⟨Nat.le_of_ble_eq_true rfl, Nat.le_of_ble_eq_true rfl⟩ (roK fun H locs hB => ?_)
    refine lv_icmp_ge (tgt := 20) hx hb d_Parts_isPart_13 (by decide) (fun c_2 => ?_) (fun c_2 => ?_)
    · rw [if_pos c_2] at hR
      refine lv_iconst (v := 0) hx hb d_Parts_isPart_20 (by decide) ?_
      subst hR
      exact rz (b := false) hC hB rfl d_Parts_isPart_21
    · rw [if_neg c_2] at hR
      refine lv_iconst (v := 1) hx hb d_Parts_isPart_16 (by decide) ?_
      refine lv_goto (tgt := 21) hx hb d_Parts_isPart_17 (by decide) ?_
      subst hR
      exact rz (b := true) hC hB rfl d_Parts_isPart_21

set_option maxHeartbeats 400000 in
set_option maxRecDepth 100000 in
theorem c_Parts_partsLeft  (σ : SC) (π : PJ)  : CM l y_Parts_partsLeft b_Parts_partsLeft 1 (some .int) { frames := 1, cells := 0, slots := 0, locals := 21 } D (tyL cI cL cQ) N0 N1 [.ref (G 0 5)] (wsC G cI cL cQ σ π rest) (some (.int (m_Parts_partsLeft σ))) (fun w => w = wsC G cI cL cQ σ π rest) 0 0 := by
  generalize hR : m_Parts_partsLeft σ = RES
  refine met_of (own := R_Parts) (by decide) rfl nwl_ok ?_
  intro p e s m below meth c hC hin hB
  have hx := hC.1
  have hb := hC.2.1
  have hl := lv_entry ([.ref (G 0 5)]) (n := 1) (Nat.le_of_ble_eq_true rfl)
  rw [lg_entry_eq]
  generalize (lg_sl ([.ref (G 0 5)]) ++ List.replicate (1 - (lg_sl ([.ref (G 0 5)])).length) Slot.unset).toArray = ls at hl ⊢
  have hl : lv_has ls 1 [(0, .ref (G 0 5))] := hl
  rw [m_Parts_partsLeft] at hR
  refine lv_bipush (v := 30) hx hb d_Parts_partsLeft_0 (by decide) ?_
  refine lv_aload_n hx hb d_Parts_partsLeft_2 rfl (lv_at hl 0 rfl) ?_
  refine gt hC hB _ lkC_Parts rfl i_Parts 1 (by decide) rfl kw_141 rfl d_Parts_partsLeft_3 ?_
  refine lv_iconst (v := 0) hx hb d_Parts_partsLeft_6 (by decide) ?_
  refine kV hC hB _ (lkC_row (by decide)) rfl (c_Row_at 6 (by decide) σ π 0) allw_ok mf_Row_at kw_233 kw_234 kw_613 ⟨rfl, rfl, Nat.le_of_ble_eq_true rfl, Nat.le_of_ble_eq_true rfl⟩ rfl rfl hl.1 (Nat.le_of_ble_eq_true rfl) d_Parts_partsLeft_7 ⟨Nat.le_of_ble_eq_true rfl, Nat.le_of_ble_eq_true rfl⟩ (roK fun H locs hB => ?_)
  refine lv_isub hx hb d_Parts_partsLeft_10 ?_
  subst hR
  exact ri hC hB rfl d_Parts_partsLeft_11

set_option maxHeartbeats 400000 in
set_option maxRecDepth 100000 in
theorem c_Parts_letterOf  (σ : SC) (π : PJ) (x0 : Int32) : CM l y_Parts_letterOf b_Parts_letterOf 2 (some .int) { frames := 1, cells := 0, slots := 0, locals := 21 } D (tyL cI cL cQ) N0 N1 [.ref (G 0 5), .int x0] (wsC G cI cL cQ σ π rest) (some (.int (m_Parts_letterOf σ x0))) (fun w => w = wsC G cI cL cQ σ π rest) 0 0 := by
  generalize hR : m_Parts_letterOf σ x0 = RES
  refine met_of (own := R_Parts) (by decide) rfl nwl_ok ?_
  intro p e s m below meth c hC hin hB
  have hx := hC.1
  have hb := hC.2.1
  have hl := lv_entry ([.ref (G 0 5), .int x0]) (n := 2) (Nat.le_of_ble_eq_true rfl)
  rw [lg_entry_eq]
  generalize (lg_sl ([.ref (G 0 5), .int x0]) ++ List.replicate (2 - (lg_sl ([.ref (G 0 5), .int x0])).length) Slot.unset).toArray = ls at hl ⊢
  have hl : lv_has ls 2 [(0, .ref (G 0 5)), (1, .int x0)] := hl
  rw [m_Parts_letterOf] at hR
  refine lv_aload_n hx hb d_Parts_letterOf_0 rfl (lv_at hl 0 rfl) ?_
  refine gt hC hB _ lkC_Parts rfl i_Parts 2 (by decide) rfl kw_142 rfl d_Parts_letterOf_1 ?_
  refine lv_iload_n hx hb d_Parts_letterOf_4 rfl (lv_at hl 1 rfl) ?_
  refine kV hC hB _ (lkC_row (by decide)) rfl (c_Row_at 7 (by decide) σ π x0) allw_ok mf_Row_at kw_233 kw_234 kw_613 ⟨rfl, rfl, Nat.le_of_ble_eq_true rfl, Nat.le_of_ble_eq_true rfl⟩ rfl rfl hl.1 (Nat.le_of_ble_eq_true rfl) d_Parts_letterOf_5 ⟨Nat.le_of_ble_eq_true rfl, Nat.le_of_ble_eq_true rfl⟩ (roK fun H locs hB => ?_)
  subst hR
  exact ri hC hB rfl d_Parts_letterOf_8

set_option maxHeartbeats 400000 in
set_option maxRecDepth 100000 in
theorem c_Parts_gateCount  (σ : SC) (π : PJ) (x0 : Int32) : CM l y_Parts_gateCount b_Parts_gateCount 2 (some .int) { frames := 1, cells := 0, slots := 0, locals := 21 } D (tyL cI cL cQ) N0 N1 [.ref (G 0 5), .int x0] (wsC G cI cL cQ σ π rest) (some (.int (m_Parts_gateCount σ x0))) (fun w => w = wsC G cI cL cQ σ π rest) 0 0 := by
  generalize hR : m_Parts_gateCount σ x0 = RES
  refine met_of (own := R_Parts) (by decide) rfl nwl_ok ?_
  intro p e s m below meth c hC hin hB
  have hx := hC.1
  have hb := hC.2.1
  have hl := lv_entry ([.ref (G 0 5), .int x0]) (n := 2) (Nat.le_of_ble_eq_true rfl)
  rw [lg_entry_eq]
  generalize (lg_sl ([.ref (G 0 5), .int x0]) ++ List.replicate (2 - (lg_sl ([.ref (G 0 5), .int x0])).length) Slot.unset).toArray = ls at hl ⊢
  have hl : lv_has ls 2 [(0, .ref (G 0 5)), (1, .int x0)] := hl
  rw [m_Parts_gateCount] at hR
  refine lv_aload_n hx hb d_Parts_gateCount_0 rfl (lv_at hl 0 rfl) ?_
  refine gt hC hB _ lkC_Parts rfl i_Parts 3 (by decide) rfl kw_143 rfl d_Parts_gateCount_1 ?_
  refine lv_iload_n hx hb d_Parts_gateCount_4 rfl (lv_at hl 1 rfl) ?_
  refine kV hC hB _ (lkC_row (by decide)) rfl (c_Row_at 8 (by decide) σ π x0) allw_ok mf_Row_at kw_233 kw_234 kw_613 ⟨rfl, rfl, Nat.le_of_ble_eq_true rfl, Nat.le_of_ble_eq_true rfl⟩ rfl rfl hl.1 (Nat.le_of_ble_eq_true rfl) d_Parts_gateCount_5 ⟨Nat.le_of_ble_eq_true rfl, Nat.le_of_ble_eq_true rfl⟩ (roK fun H locs hB => ?_)
  subst hR
  exact ri hC hB rfl d_Parts_gateCount_8

set_option maxHeartbeats 400000 in
set_option maxRecDepth 100000 in
theorem c_Parts_sheetOfGate  (σ : SC) (π : PJ) (x0 : Int32) (x1 : Int32) : CM l y_Parts_sheetOfGate b_Parts_sheetOfGate 3 (some .int) { frames := 1, cells := 0, slots := 0, locals := 21 } D (tyL cI cL cQ) N0 N1 [.ref (G 0 5), .int x0, .int x1] (wsC G cI cL cQ σ π rest) (some (.int (m_Parts_sheetOfGate σ x0 x1))) (fun w => w = wsC G cI cL cQ σ π rest) 0 0 := by
  generalize hR : m_Parts_sheetOfGate σ x0 x1 = RES
  refine met_of (own := R_Parts) (by decide) rfl nwl_ok ?_
  intro p e s m below meth c hC hin hB
  have hx := hC.1
  have hb := hC.2.1
  have hl := lv_entry ([.ref (G 0 5), .int x0, .int x1]) (n := 3) (Nat.le_of_ble_eq_true rfl)
  rw [lg_entry_eq]
  generalize (lg_sl ([.ref (G 0 5), .int x0, .int x1]) ++ List.replicate (3 - (lg_sl ([.ref (G 0 5), .int x0, .int x1])).length) Slot.unset).toArray = ls at hl ⊢
  have hl : lv_has ls 3 [(0, .ref (G 0 5)), (1, .int x0), (2, .int x1)] := hl
  rw [m_Parts_sheetOfGate] at hR
  refine lv_aload_n hx hb d_Parts_sheetOfGate_0 rfl (lv_at hl 0 rfl) ?_
  refine gt hC hB _ lkC_Parts rfl i_Parts 4 (by decide) rfl kw_144 rfl d_Parts_sheetOfGate_1 ?_
  refine lv_iload_n hx hb d_Parts_sheetOfGate_4 rfl (lv_at hl 1 rfl) ?_
  refine lv_bipush (v := 8) hx hb d_Parts_sheetOfGate_5 (by decide) ?_
  refine lv_imul hx hb d_Parts_sheetOfGate_7 ?_
  refine lv_iload_n hx hb d_Parts_sheetOfGate_8 rfl (lv_at hl 2 rfl) ?_
  refine lv_iadd hx hb d_Parts_sheetOfGate_9 ?_
  refine kV hC hB _ (lkC_row (by decide)) rfl (c_Row_at 9 (by decide) σ π ((x0 * 8) + x1)) allw_ok mf_Row_at kw_233 kw_234 kw_613 ⟨rfl, rfl, Nat.le_of_ble_eq_true rfl, Nat.le_of_ble_eq_true rfl⟩ rfl rfl hl.1 (Nat.le_of_ble_eq_true rfl) d_Parts_sheetOfGate_10 ⟨Nat.le_of_ble_eq_true rfl, Nat.le_of_ble_eq_true rfl⟩ (roK fun H locs hB => ?_)
  subst hR
  exact ri hC hB rfl d_Parts_sheetOfGate_13

set_option maxHeartbeats 400000 in
set_option maxRecDepth 100000 in
theorem c_Parts_gatesOn  (σ : SC) (π : PJ) (x0 : Int32) : CM l y_Parts_gatesOn b_Parts_gatesOn 2 (some .int) { frames := 1, cells := 0, slots := 0, locals := 21 } D (tyL cI cL cQ) N0 N1 [.ref (G 0 5), .int x0] (wsC G cI cL cQ σ π rest) (some (.int (m_Parts_gatesOn σ x0))) (fun w => w = wsC G cI cL cQ σ π rest) 0 0 := by
  generalize hR : m_Parts_gatesOn σ x0 = RES
  refine met_of (own := R_Parts) (by decide) rfl nwl_ok ?_
  intro p e s m below meth c hC hin hB
  have hx := hC.1
  have hb := hC.2.1
  have hl := lv_entry ([.ref (G 0 5), .int x0]) (n := 2) (Nat.le_of_ble_eq_true rfl)
  rw [lg_entry_eq]
  generalize (lg_sl ([.ref (G 0 5), .int x0]) ++ List.replicate (2 - (lg_sl ([.ref (G 0 5), .int x0])).length) Slot.unset).toArray = ls at hl ⊢
  have hl : lv_has ls 2 [(0, .ref (G 0 5)), (1, .int x0)] := hl
  rw [m_Parts_gatesOn] at hR
  refine lv_aload_n hx hb d_Parts_gatesOn_0 rfl (lv_at hl 0 rfl) ?_
  refine gt hC hB _ lkC_Parts rfl i_Parts 6 (by decide) rfl kw_146 rfl d_Parts_gatesOn_1 ?_
  refine lv_iload_n hx hb d_Parts_gatesOn_4 rfl (lv_at hl 1 rfl) ?_
  refine kV hC hB _ (lkC_row (by decide)) rfl (c_Row_at 11 (by decide) σ π x0) allw_ok mf_Row_at kw_233 kw_234 kw_613 ⟨rfl, rfl, Nat.le_of_ble_eq_true rfl, Nat.le_of_ble_eq_true rfl⟩ rfl rfl hl.1 (Nat.le_of_ble_eq_true rfl) d_Parts_gatesOn_5 ⟨Nat.le_of_ble_eq_true rfl, Nat.le_of_ble_eq_true rfl⟩ (roK fun H locs hB => ?_)
  subst hR
  exact ri hC hB rfl d_Parts_gatesOn_8

set_option maxHeartbeats 400000 in
set_option maxRecDepth 100000 in
theorem c_Parts_gateAt  (σ : SC) (π : PJ) (x0 : Int32) (x1 : Int32) : CM l y_Parts_gateAt b_Parts_gateAt 3 (some .int) { frames := 1, cells := 0, slots := 0, locals := 21 } D (tyL cI cL cQ) N0 N1 [.ref (G 0 5), .int x0, .int x1] (wsC G cI cL cQ σ π rest) (some (.int (m_Parts_gateAt σ x0 x1))) (fun w => w = wsC G cI cL cQ σ π rest) 0 0 := by
  generalize hR : m_Parts_gateAt σ x0 x1 = RES
  refine met_of (own := R_Parts) (by decide) rfl nwl_ok ?_
  intro p e s m below meth c hC hin hB
  have hx := hC.1
  have hb := hC.2.1
  have hl := lv_entry ([.ref (G 0 5), .int x0, .int x1]) (n := 3) (Nat.le_of_ble_eq_true rfl)
  rw [lg_entry_eq]
  generalize (lg_sl ([.ref (G 0 5), .int x0, .int x1]) ++ List.replicate (3 - (lg_sl ([.ref (G 0 5), .int x0, .int x1])).length) Slot.unset).toArray = ls at hl ⊢
  have hl : lv_has ls 3 [(0, .ref (G 0 5)), (1, .int x0), (2, .int x1)] := hl
  rw [m_Parts_gateAt] at hR
  refine lv_aload_n hx hb d_Parts_gateAt_0 rfl (lv_at hl 0 rfl) ?_
  refine gt hC hB _ lkC_Parts rfl i_Parts 5 (by decide) rfl kw_145 rfl d_Parts_gateAt_1 ?_
  refine lv_iload_n hx hb d_Parts_gateAt_4 rfl (lv_at hl 1 rfl) ?_
  refine lv_bipush (v := 20) hx hb d_Parts_gateAt_5 (by decide) ?_
  refine lv_imul hx hb d_Parts_gateAt_7 ?_
  refine lv_iload_n hx hb d_Parts_gateAt_8 rfl (lv_at hl 2 rfl) ?_
  refine lv_iadd hx hb d_Parts_gateAt_9 ?_
  refine kV hC hB _ (lkC_row (by decide)) rfl (c_Row_at 10 (by decide) σ π ((x0 * 20) + x1)) allw_ok mf_Row_at kw_233 kw_234 kw_613 ⟨rfl, rfl, Nat.le_of_ble_eq_true rfl, Nat.le_of_ble_eq_true rfl⟩ rfl rfl hl.1 (Nat.le_of_ble_eq_true rfl) d_Parts_gateAt_10 ⟨Nat.le_of_ble_eq_true rfl, Nat.le_of_ble_eq_true rfl⟩ (roK fun H locs hB => ?_)
  subst hR
  exact ri hC hB rfl d_Parts_gateAt_13

set_option maxHeartbeats 400000 in
set_option maxRecDepth 100000 in
theorem c_Parts_partAt  (σ : SC) (π : PJ) (x0 : Int32) (x1 : Int32) : CM l y_Parts_partAt b_Parts_partAt 3 (some .int) { frames := 2, cells := 0, slots := 0, locals := 43 } D (tyL cI cL cQ) N0 N1 [.ref (G 0 5), .int x0, .int x1] (wsC G cI cL cQ σ π rest) (some (.int (m_Parts_partAt σ x0 x1))) (fun w => w = wsC G cI cL cQ σ π rest) 0 0 := by
  generalize hR : m_Parts_partAt σ x0 x1 = RES
  refine met_of (own := R_Parts) (by decide) rfl nwl_ok ?_
  intro p e s m below meth c hC hin hB
  have hx := hC.1
  have hb := hC.2.1
  have hl := lv_entry ([.ref (G 0 5), .int x0, .int x1]) (n := 3) (Nat.le_of_ble_eq_true rfl)
  rw [lg_entry_eq]
  generalize (lg_sl ([.ref (G 0 5), .int x0, .int x1]) ++ List.replicate (3 - (lg_sl ([.ref (G 0 5), .int x0, .int x1])).length) Slot.unset).toArray = ls at hl ⊢
  have hl : lv_has ls 3 [(0, .ref (G 0 5)), (1, .int x0), (2, .int x1)] := hl
  rw [m_Parts_partAt] at hR
  refine lv_aload_n hx hb d_Parts_partAt_0 rfl (lv_at hl 0 rfl) ?_
  refine lv_iload_n hx hb d_Parts_partAt_1 rfl (lv_at hl 1 rfl) ?_
  refine lv_iload_n hx hb d_Parts_partAt_2 rfl (lv_at hl 2 rfl) ?_
  refine kV hC hB _ lkC_Parts rfl (c_Parts_gateAt σ π x0 x1) allw_ok mf_Parts_gateAt kw_680 ks_17 kw_678 ⟨rfl, rfl, Nat.le_of_ble_eq_true rfl, Nat.le_of_ble_eq_true rfl⟩ rfl rfl hl.1 (Nat.le_of_ble_eq_true rfl) d_Parts_partAt_3 ⟨Nat.le_of_ble_eq_true rfl, Nat.le_of_ble_eq_true rfl⟩ (roK fun H locs hB => ?_)
  refine lv_bipush (v := 8) hx hb d_Parts_partAt_6 (by decide) ?_
  refine lv_idiv hx hb d_Parts_partAt_8 (by decide) ?_
  subst hR
  exact ri hC hB rfl d_Parts_partAt_9

set_option maxHeartbeats 400000 in
set_option maxRecDepth 100000 in
theorem w_Parts_unitCount_4 {p : Program} {e : Env} {s : State} {m : MethodId} {args : Array Value} {below : List Frame} {meth : Method} {c : Code} {RES : Int32}  (σ : SC) (π : PJ) (hC : cx D classes (tyL cI cL cQ) NWL ALLW N1 p s m args meth c b_Parts_unitCount 4 (some .int) R_Parts) :
    ∀ (n : Nat) (v1 : Int32) (v2 : Int32) (v3 : Int32), upI n (m_Parts_gateCount σ v1) v3 → lp_Parts_unitCount_4 n σ  v1 v2 v3 = RES → ∀ (H : Heap) (locs : List Loc), bd D classes N0 N1 (wsC G cI cL cQ σ π rest) s H locs → ∀ (ls : Array Slot), lv_has ls 4 [(0, .ref (G 0 5)), (1, .int v1), (2, .int v2), (3, .int v3)] → W p l e { frames := 2, cells := 0, slots := 0, locals := 43 } s m args below meth c H locs 0 0 (MQ below (qx D classes N0 N1 (some (.int RES)) (fun w => w = wsC G cI cL cQ σ π rest)) args s 0 0 (ga N1)) (F0 m 4 ls []) := by
  have hx := hC.1
  have hb := hC.2.1
  intro n
  induction n with
  | zero =>
    intro v1 v2 v3 hI
    exact absurd hI up_zero
  | succ n ih =>
    intro v1 v2 v3 hI hR H locs hB ls hl
    rw [lp_Parts_unitCount_4] at hR
    refine lv_iload_n hx hb d_Parts_unitCount_4 rfl (lv_at hl 3 rfl) ?_
    refine lv_aload_n hx hb d_Parts_unitCount_5 rfl (lv_at hl 0 rfl) ?_
    refine lv_iload_n hx hb d_Parts_unitCount_6 rfl (lv_at hl 1 rfl) ?_
    refine kV hC hB _ lkC_Parts rfl (c_Parts_gateCount σ π v1) allw_ok mf_Parts_gateCount kw_640 kw_641 kw_702 ⟨rfl, rfl, Nat.le_of_ble_eq_true rfl, Nat.le_of_ble_eq_true rfl⟩ rfl rfl hl.1 (Nat.le_of_ble_eq_true rfl) d_Parts_unitCount_7 ⟨Nat.le_of_ble_eq_true rfl, Nat.le_of_ble_eq_true rfl⟩ (roK fun H locs hB => ?_)
    refine lv_icmp_ge (tgt := 37) hx hb d_Parts_unitCount_10 (by decide) (fun c_1 => ?_) (fun c_1 => ?_)
    · rw [if_pos c_1] at hR
      refine lv_iload_n hx hb d_Parts_unitCount_37 rfl (lv_at hl 2 rfl) ?_
      subst hR
      exact ri hC hB rfl d_Parts_unitCount_38
    · rw [if_neg c_1] at hR
      refine lv_iload_n hx hb d_Parts_unitCount_13 rfl (lv_at hl 2 rfl) ?_
      refine lv_aload_n hx hb d_Parts_unitCount_14 rfl (lv_at hl 0 rfl) ?_
      refine gt hC hB _ lkC_Parts rfl i_Parts 0 (by decide) rfl kw_140 rfl d_Parts_unitCount_15 ?_
      refine lv_aload_n hx hb d_Parts_unitCount_18 rfl (lv_at hl 0 rfl) ?_
      refine lv_iload_n hx hb d_Parts_unitCount_19 rfl (lv_at hl 1 rfl) ?_
      refine lv_iload_n hx hb d_Parts_unitCount_20 rfl (lv_at hl 3 rfl) ?_
      refine kV hC hB _ lkC_Parts rfl (c_Parts_sheetOfGate σ π v1 v3) allw_ok mf_Parts_sheetOfGate kw_645 kw_646 kw_842 ⟨rfl, rfl, Nat.le_of_ble_eq_true rfl, Nat.le_of_ble_eq_true rfl⟩ rfl rfl hl.1 (Nat.le_of_ble_eq_true rfl) d_Parts_unitCount_21 ⟨Nat.le_of_ble_eq_true rfl, Nat.le_of_ble_eq_true rfl⟩ (roK fun H locs hB => ?_)
      refine kV hC hB _ lkC_Book rfl (c_Book_comingsOf σ π (m_Parts_sheetOfGate σ v1 v3)) allw_ok mf_Book_comingsOf kw_213 kw_214 kw_843 ⟨rfl, rfl, Nat.le_of_ble_eq_true rfl, Nat.le_of_ble_eq_true rfl⟩ rfl rfl hl.1 (Nat.le_of_ble_eq_true rfl) d_Parts_unitCount_24 ⟨Nat.le_of_ble_eq_true rfl, Nat.le_of_ble_eq_true rfl⟩ (roK fun H locs hB => ?_)
      refine va_mmax hx hb (hC.2.2.2.1.trans hl.1.symm) hC.2.2.2.2.1 (hC.2.2.2.2.2.1 _ kw_844) (hC.2.2.2.2.2.1 _ kw_62) (hC.2.2.2.2.2.1 _ kw_5) (hC.2.2.2.2.2.1 _ kw_63) (Nat.le_of_ble_eq_true rfl) (Nat.le_of_ble_eq_true rfl) (Nat.le_of_ble_eq_true rfl) (Nat.le_of_ble_eq_true rfl) d_Parts_unitCount_27 ?_
      refine lv_istore_n (lv' := [(2, .int (if v2 < (m_Book_comingsOf σ (m_Parts_sheetOfGate σ v1 v3)) then (m_Book_comingsOf σ (m_Parts_sheetOfGate σ v1 v3)) else v2)), (0, .ref (G 0 5)), (1, .int v1), (3, .int v3)]) hx hb d_Parts_unitCount_30 rfl hl (by decide) rfl (fun ls hl => ?_)
      refine lv_iinc (v := (v3 + 1)) (lv' := [(3, .int (v3 + 1)), (2, .int (if v2 < (m_Book_comingsOf σ (m_Parts_sheetOfGate σ v1 v3)) then (m_Book_comingsOf σ (m_Parts_sheetOfGate σ v1 v3)) else v2)), (0, .ref (G 0 5)), (1, .int v1)]) hx hb d_Parts_unitCount_31 hl (k := 3) rfl rfl (by decide) rfl (fun ls hl => ?_)
      refine lv_goto (tgt := 4) hx hb d_Parts_unitCount_34 (by decide) ?_
      exact ih v1 (if v2 < (m_Book_comingsOf σ (m_Parts_sheetOfGate σ v1 v3)) then (m_Book_comingsOf σ (m_Parts_sheetOfGate σ v1 v3)) else v2) (v3 + 1) (up_step hI (by assumption)) hR _ _ hB ls (lv_sub hl [2, 3, 1, 0] rfl)

set_option maxHeartbeats 400000 in
set_option maxRecDepth 100000 in
theorem c_Parts_unitCount  (σ : SC) (π : PJ) (x0 : Int32) : CM l y_Parts_unitCount b_Parts_unitCount 4 (some .int) { frames := 2, cells := 0, slots := 0, locals := 43 } D (tyL cI cL cQ) N0 N1 [.ref (G 0 5), .int x0] (wsC G cI cL cQ σ π rest) (some (.int (m_Parts_unitCount σ x0))) (fun w => w = wsC G cI cL cQ σ π rest) 0 0 := by
  generalize hR : m_Parts_unitCount σ x0 = RES
  refine met_of (own := R_Parts) (by decide) rfl nwl_ok ?_
  intro p e s m below meth c hC hin hB
  have hx := hC.1
  have hb := hC.2.1
  have hl := lv_entry ([.ref (G 0 5), .int x0]) (n := 4) (Nat.le_of_ble_eq_true rfl)
  rw [lg_entry_eq]
  generalize (lg_sl ([.ref (G 0 5), .int x0]) ++ List.replicate (4 - (lg_sl ([.ref (G 0 5), .int x0])).length) Slot.unset).toArray = ls at hl ⊢
  have hl : lv_has ls 4 [(0, .ref (G 0 5)), (1, .int x0)] := hl
  rw [m_Parts_unitCount] at hR
  refine lv_iconst (v := 0) hx hb d_Parts_unitCount_0 (by decide) ?_
  refine lv_istore_n (lv' := [(2, .int 0), (0, .ref (G 0 5)), (1, .int x0)]) hx hb d_Parts_unitCount_1 rfl hl (by decide) rfl (fun ls hl => ?_)
  refine lv_iconst (v := 0) hx hb d_Parts_unitCount_2 (by decide) ?_
  refine lv_istore_n (lv' := [(3, .int 0), (2, .int 0), (0, .ref (G 0 5)), (1, .int x0)]) hx hb d_Parts_unitCount_3 rfl hl (by decide) rfl (fun ls hl => ?_)
  exact w_Parts_unitCount_4  σ π hC ((m_Parts_gateCount σ x0).toNatClampNeg + 1) x0 0 0 (up_init _) hR _ _ hB ls (lv_sub hl [2, 3, 1, 0] rfl)

set_option maxHeartbeats 400000 in
set_option maxRecDepth 100000 in
theorem w_Parts_partsOn_12 {p : Program} {e : Env} {s : State} {m : MethodId} {args : Array Value} {below : List Frame} {meth : Method} {c : Code} {RES : Int32 × SC}  (π : PJ) (hC : cx D classes (tyL cI cL cQ) NWL ALLW N0 p s m args meth c b_Parts_partsOn 5 (some .int) R_Parts) :
    ∀ (n : Nat) (σ : SC) (v1 : Int32) (v2 : Int32) (v3 : Int32), upI n (m_Parts_gatesOn σ v1) v3 → lp_Parts_partsOn_12 n σ  v1 v2 v3 = RES → ∀ (H : Heap) (locs : List Loc), bd D classes N0 N0 (wsC G cI cL cQ σ π rest) s H locs → ∀ (ls : Array Slot), lv_has ls 5 [(0, .ref (G 0 5)), (1, .int v1), (2, .int v2), (3, .int v3)] → W p l e { frames := 3, cells := 0, slots := 0, locals := 65 } s m args below meth c H locs 0 0 (MQ below (qx D classes N0 N0 (some (.int RES.1)) (fun w => w = wsC G cI cL cQ RES.2 π rest)) args s 0 0 (ga N0)) (F0 m 12 ls []) := by
  obtain ⟨RV, RS⟩ := RES
  dsimp only
  have hx := hC.1
  have hb := hC.2.1
  intro n
  induction n with
  | zero =>
    intro σ v1 v2 v3 hI
    exact absurd hI up_zero
  | succ n ih =>
    intro σ v1 v2 v3 hI hR H locs hB ls hl
    rw [lp_Parts_partsOn_12] at hR
    refine lv_iload_n hx hb d_Parts_partsOn_12 rfl (lv_at hl 3 rfl) ?_
    refine lv_aload_n hx hb d_Parts_partsOn_13 rfl (lv_at hl 0 rfl) ?_
    refine lv_iload_n hx hb d_Parts_partsOn_14 rfl (lv_at hl 1 rfl) ?_
    refine kV hC hB _ lkC_Parts rfl (c_Parts_gatesOn σ π v1) allw_ok mf_Parts_gatesOn kw_649 kw_650 kw_656 ⟨rfl, rfl, Nat.le_of_ble_eq_true rfl, Nat.le_of_ble_eq_true rfl⟩ rfl rfl hl.1 (Nat.le_of_ble_eq_true rfl) d_Parts_partsOn_15 ⟨Nat.le_of_ble_eq_true rfl, Nat.le_of_ble_eq_true rfl⟩ (roK fun H locs hB => ?_)
    refine lv_icmp_ge (tgt := 62) hx hb d_Parts_partsOn_18 (by decide) (fun c_1 => ?_) (fun c_1 => ?_)
    · rw [if_pos c_1] at hR
      refine lv_iload_n hx hb d_Parts_partsOn_62 rfl (lv_at hl 2 rfl) ?_
      obtain ⟨rfl, rfl⟩ := Prod.mk.inj hR
      exact ri hC hB rfl d_Parts_partsOn_63
    · rw [if_neg c_1] at hR
      refine lv_aload_n hx hb d_Parts_partsOn_21 rfl (lv_at hl 0 rfl) ?_
      refine lv_iload_n hx hb d_Parts_partsOn_22 rfl (lv_at hl 1 rfl) ?_
      refine lv_iload_n hx hb d_Parts_partsOn_23 rfl (lv_at hl 3 rfl) ?_
      refine kV hC hB _ lkC_Parts rfl (c_Parts_partAt σ π v1 v3) allw_ok mf_Parts_partAt kw_676 ks_16 kw_674 ⟨rfl, rfl, Nat.le_of_ble_eq_true rfl, Nat.le_of_ble_eq_true rfl⟩ rfl rfl hl.1 (Nat.le_of_ble_eq_true rfl) d_Parts_partsOn_24 ⟨Nat.le_of_ble_eq_true rfl, Nat.le_of_ble_eq_true rfl⟩ (roK fun H locs hB => ?_)
      refine lv_istore (lv' := [(4, .int (m_Parts_partAt σ v1 v3)), (0, .ref (G 0 5)), (1, .int v1), (2, .int v2), (3, .int v3)]) hx hb d_Parts_partsOn_27 hl (by decide) rfl (fun ls hl => ?_)
      refine lv_aload_n hx hb d_Parts_partsOn_29 rfl (lv_at hl 1 rfl) ?_
      refine gt hC hB _ lkC_Parts rfl i_Parts 7 (by decide) rfl kw_147 rfl d_Parts_partsOn_30 ?_
      refine lv_iload hx hb d_Parts_partsOn_33 (lv_at hl 0 rfl) ?_
      refine kSN hC hB (c_ST_read 6 (by decide) σ π (m_Parts_partAt σ v1 v3)) allw_ok mf_ST_read kw_217 nw_6 ⟨rfl, rfl, Nat.le_of_ble_eq_true rfl, Nat.le_of_ble_eq_true rfl⟩ rfl rfl hl.1 (Nat.le_of_ble_eq_true rfl) d_Parts_partsOn_35 ⟨Nat.le_of_ble_eq_true rfl, Nat.le_of_ble_eq_true rfl⟩ (roK fun H locs hB => ?_)
      refine lv_iconst (v := (-1)) hx hb d_Parts_partsOn_38 (by decide) ?_
      refine lv_icmp_ne (tgt := 56) hx hb d_Parts_partsOn_39 (by decide) (fun c_2 => ?_) (fun c_2 => ?_)
      · rw [if_neg c_2] at hR
        refine lv_iinc (v := (v3 + 1)) (lv' := [(3, .int (v3 + 1)), (4, .int (m_Parts_partAt σ v1 v3)), (0, .ref (G 0 5)), (1, .int v1), (2, .int v2)]) hx hb d_Parts_partsOn_56 hl (k := 4) rfl rfl (by decide) rfl (fun ls hl => ?_)
        refine lv_goto (tgt := 12) hx hb d_Parts_partsOn_59 (by decide) ?_
        exact ih σ v1 v2 (v3 + 1) (by first | (rw [gO_w]; exact up_step hI (by assumption)) | exact up_step hI (by assumption)) hR _ _ hB ls (lv_sub hl [2, 3, 4, 0] rfl)
      · rw [if_pos c_2] at hR
        refine lv_aload_n hx hb d_Parts_partsOn_42 rfl (lv_at hl 1 rfl) ?_
        refine gt hC hB _ lkC_Parts rfl i_Parts 7 (by decide) rfl kw_147 rfl d_Parts_partsOn_43 ?_
        refine lv_iload hx hb d_Parts_partsOn_46 (lv_at hl 0 rfl) ?_
        refine lv_iload hx hb d_Parts_partsOn_48 (lv_at hl 0 rfl) ?_
        refine kSN hC hB (c_ST_write 6 (by decide) σ π (m_Parts_partAt σ v1 v3) (m_Parts_partAt σ v1 v3)) allw_ok mf_ST_write kw_210 nw_7 ⟨rfl, rfl, Nat.le_of_ble_eq_true rfl, Nat.le_of_ble_eq_true rfl⟩ rfl rfl hl.1 (Nat.le_of_ble_eq_true rfl) d_Parts_partsOn_50 ⟨Nat.le_of_ble_eq_true rfl, Nat.le_of_ble_eq_true rfl⟩ (roK fun H locs hB => ?_)
        refine lv_iinc (v := (v2 + 1)) (lv' := [(2, .int (v2 + 1)), (4, .int (m_Parts_partAt σ v1 v3)), (0, .ref (G 0 5)), (1, .int v1), (3, .int v3)]) hx hb d_Parts_partsOn_53 hl (k := 3) rfl rfl (by decide) rfl (fun ls hl => ?_)
        refine lv_iinc (v := (v3 + 1)) (lv' := [(3, .int (v3 + 1)), (2, .int (v2 + 1)), (4, .int (m_Parts_partAt σ v1 v3)), (0, .ref (G 0 5)), (1, .int v1)]) hx hb d_Parts_partsOn_56 hl (k := 4) rfl rfl (by decide) rfl (fun ls hl => ?_)
        refine lv_goto (tgt := 12) hx hb d_Parts_partsOn_59 (by decide) ?_
        exact ih (m_ST_write σ 6 (m_Parts_partAt σ v1 v3) (m_Parts_partAt σ v1 v3)) v1 (v2 + 1) (v3 + 1) (by first | (rw [gO_w]; exact up_step hI (by assumption)) | exact up_step hI (by assumption)) hR _ _ hB ls (lv_sub hl [3, 4, 1, 0] rfl)

set_option maxHeartbeats 400000 in
set_option maxRecDepth 100000 in
theorem c_Parts_partsOn  (σ : SC) (π : PJ) (x0 : Int32) : CM l y_Parts_partsOn b_Parts_partsOn 5 (some .int) { frames := 3, cells := 0, slots := 0, locals := 65 } D (tyL cI cL cQ) N0 N0 [.ref (G 0 5), .int x0] (wsC G cI cL cQ σ π rest) (some (.int ((m_Parts_partsOn σ x0).1))) (fun w => w = wsC G cI cL cQ ((m_Parts_partsOn σ x0).2) π rest) 0 0 := by
  generalize hR : m_Parts_partsOn σ x0 = RES
  obtain ⟨RV, RS⟩ := RES
  dsimp only
  refine met_of (own := R_Parts) (by decide) rfl nwl_ok ?_
  intro p e s m below meth c hC hin hB
  have hx := hC.1
  have hb := hC.2.1
  have hl := lv_entry ([.ref (G 0 5), .int x0]) (n := 5) (Nat.le_of_ble_eq_true rfl)
  rw [lg_entry_eq]
  generalize (lg_sl ([.ref (G 0 5), .int x0]) ++ List.replicate (5 - (lg_sl ([.ref (G 0 5), .int x0])).length) Slot.unset).toArray = ls at hl ⊢
  have hl : lv_has ls 5 [(0, .ref (G 0 5)), (1, .int x0)] := hl
  rw [m_Parts_partsOn] at hR
  refine lv_aload_n hx hb d_Parts_partsOn_0 rfl (lv_at hl 0 rfl) ?_
  refine gt hC hB _ lkC_Parts rfl i_Parts 7 (by decide) rfl kw_147 rfl d_Parts_partsOn_1 ?_
  refine lv_iconst (v := (-1)) hx hb d_Parts_partsOn_4 (by decide) ?_
  refine kS hC hB (c_Arrays_fillI 6 (by decide) σ π (-1)) allw_ok mf_Arrays_fillI kw_203 kw_673 ⟨rfl, rfl, Nat.le_of_ble_eq_true rfl, Nat.le_of_ble_eq_true rfl⟩ rfl rfl hl.1 (Nat.le_of_ble_eq_true rfl) d_Parts_partsOn_5 ⟨Nat.le_of_ble_eq_true rfl, Nat.le_of_ble_eq_true rfl⟩ (roK fun H locs hB => ?_)
  refine lv_iconst (v := 0) hx hb d_Parts_partsOn_8 (by decide) ?_
  refine lv_istore_n (lv' := [(2, .int 0), (0, .ref (G 0 5)), (1, .int x0)]) hx hb d_Parts_partsOn_9 rfl hl (by decide) rfl (fun ls hl => ?_)
  refine lv_iconst (v := 0) hx hb d_Parts_partsOn_10 (by decide) ?_
  refine lv_istore_n (lv' := [(3, .int 0), (2, .int 0), (0, .ref (G 0 5)), (1, .int x0)]) hx hb d_Parts_partsOn_11 rfl hl (by decide) rfl (fun ls hl => ?_)
  exact w_Parts_partsOn_12  π hC ((m_Parts_gatesOn (m_Arrays_fillI σ 6 (-1)) x0).toNatClampNeg + 1) (m_Arrays_fillI σ 6 (-1)) x0 0 0 (up_init _) hR _ _ hB ls (lv_sub hl [2, 3, 1, 0] rfl)

set_option maxHeartbeats 400000 in
set_option maxRecDepth 100000 in
theorem w_Parts_newUnitsAt_26 {p : Program} {e : Env} {s : State} {m : MethodId} {args : Array Value} {below : List Frame} {meth : Method} {c : Code} {RES : Int32 × SC}  (π : PJ) (hC : cx D classes (tyL cI cL cQ) NWL ALLW N0 p s m args meth c b_Parts_newUnitsAt 9 (some .int) R_Parts) :
    ∀ (n : Nat) (σ : SC) (v1 : Int32) (v2 : Int32) (v3 : Int32) (v4 : Int32) (v5 : Int32) (v6 : Int32) (v7 : Int32), upI n (m_Parts_gatesOn σ v4) v7 → lp_Parts_newUnitsAt_26 n σ  v1 v2 v3 v4 v5 v6 v7 = RES → ∀ (H : Heap) (locs : List Loc), bd D classes N0 N0 (wsC G cI cL cQ σ π rest) s H locs → ∀ (ls : Array Slot), lv_has ls 9 [(0, .ref (G 0 5)), (1, .int v1), (2, .int v2), (3, .int v3), (4, .int v4), (5, .int v5), (6, .int v6), (7, .int v7)] → W p l e { frames := 3, cells := 0, slots := 0, locals := 65 } s m args below meth c H locs 0 0 (MQ below (qx D classes N0 N0 (some (.int RES.1)) (fun w => w = wsC G cI cL cQ RES.2 π rest)) args s 0 0 (ga N0)) (F0 m 26 ls []) := by
  obtain ⟨RV, RS⟩ := RES
  dsimp only
  have hx := hC.1
  have hb := hC.2.1
  intro n
  induction n with
  | zero =>
    intro σ v1 v2 v3 v4 v5 v6 v7 hI
    exact absurd hI up_zero
  | succ n ih =>
    intro σ v1 v2 v3 v4 v5 v6 v7 hI hR H locs hB ls hl
    rw [lp_Parts_newUnitsAt_26] at hR
    refine lv_iload hx hb d_Parts_newUnitsAt_26 (lv_at hl 7 rfl) ?_
    refine lv_aload_n hx hb d_Parts_newUnitsAt_28 rfl (lv_at hl 0 rfl) ?_
    refine lv_iload hx hb d_Parts_newUnitsAt_29 (lv_at hl 4 rfl) ?_
    refine kV hC hB _ lkC_Parts rfl (c_Parts_gatesOn σ π v4) allw_ok mf_Parts_gatesOn kw_649 kw_650 kw_656 ⟨rfl, rfl, Nat.le_of_ble_eq_true rfl, Nat.le_of_ble_eq_true rfl⟩ rfl rfl hl.1 (Nat.le_of_ble_eq_true rfl) d_Parts_newUnitsAt_31 ⟨Nat.le_of_ble_eq_true rfl, Nat.le_of_ble_eq_true rfl⟩ (roK fun H locs hB => ?_)
    refine lv_icmp_ge (tgt := 112) hx hb d_Parts_newUnitsAt_34 (by decide) (fun c_1 => ?_) (fun c_1 => ?_)
    · rw [if_pos c_1] at hR
      refine lv_iload hx hb d_Parts_newUnitsAt_112 (lv_at hl 6 rfl) ?_
      obtain ⟨rfl, rfl⟩ := Prod.mk.inj hR
      exact ri hC hB rfl d_Parts_newUnitsAt_114
    · rw [if_neg c_1] at hR
      refine lv_aload_n hx hb d_Parts_newUnitsAt_37 rfl (lv_at hl 0 rfl) ?_
      refine lv_iload hx hb d_Parts_newUnitsAt_38 (lv_at hl 4 rfl) ?_
      refine lv_iload hx hb d_Parts_newUnitsAt_40 (lv_at hl 7 rfl) ?_
      refine kV hC hB _ lkC_Parts rfl (c_Parts_partAt σ π v4 v7) allw_ok mf_Parts_partAt kw_676 ks_16 kw_674 ⟨rfl, rfl, Nat.le_of_ble_eq_true rfl, Nat.le_of_ble_eq_true rfl⟩ rfl rfl hl.1 (Nat.le_of_ble_eq_true rfl) d_Parts_newUnitsAt_42 ⟨Nat.le_of_ble_eq_true rfl, Nat.le_of_ble_eq_true rfl⟩ (roK fun H locs hB => ?_)
      refine lv_istore (lv' := [(8, .int (m_Parts_partAt σ v4 v7)), (0, .ref (G 0 5)), (1, .int v1), (2, .int v2), (3, .int v3), (4, .int v4), (5, .int v5), (6, .int v6), (7, .int v7)]) hx hb d_Parts_newUnitsAt_45 hl (by decide) rfl (fun ls hl => ?_)
      refine lv_aload_n hx hb d_Parts_newUnitsAt_47 rfl (lv_at hl 1 rfl) ?_
      refine lv_iload hx hb d_Parts_newUnitsAt_48 (lv_at hl 0 rfl) ?_
      refine kV hC hB _ lkC_Parts rfl (c_Parts_letterOf σ π (m_Parts_partAt σ v4 v7)) allw_ok mf_Parts_letterOf kw_699 kw_700 kw_698 ⟨rfl, rfl, Nat.le_of_ble_eq_true rfl, Nat.le_of_ble_eq_true rfl⟩ rfl rfl hl.1 (Nat.le_of_ble_eq_true rfl) d_Parts_newUnitsAt_50 ⟨Nat.le_of_ble_eq_true rfl, Nat.le_of_ble_eq_true rfl⟩ (roK fun H locs hB => ?_)
      refine lv_aload_n hx hb d_Parts_newUnitsAt_53 rfl (lv_at hl 1 rfl) ?_
      refine lv_iload_n hx hb d_Parts_newUnitsAt_54 rfl (lv_at hl 3 rfl) ?_
      refine kV hC hB _ lkC_Parts rfl (c_Parts_letterOf σ π v2) allw_ok mf_Parts_letterOf kw_699 kw_700 kw_698 ⟨rfl, rfl, Nat.le_of_ble_eq_true rfl, Nat.le_of_ble_eq_true rfl⟩ rfl rfl hl.1 (Nat.le_of_ble_eq_true rfl) d_Parts_newUnitsAt_55 ⟨Nat.le_of_ble_eq_true rfl, Nat.le_of_ble_eq_true rfl⟩ (roK fun H locs hB => ?_)
      refine lv_icmp_ne (tgt := 106) hx hb d_Parts_newUnitsAt_58 (by decide) (fun c_2 => ?_) (fun c_2 => ?_)
      · rw [if_neg c_2] at hR
        refine lv_iinc (v := (v7 + 1)) (lv' := [(7, .int (v7 + 1)), (8, .int (m_Parts_partAt σ v4 v7)), (0, .ref (G 0 5)), (1, .int v1), (2, .int v2), (3, .int v3), (4, .int v4), (5, .int v5), (6, .int v6)]) hx hb d_Parts_newUnitsAt_106 hl (k := 8) rfl rfl (by decide) rfl (fun ls hl => ?_)
        refine lv_goto (tgt := 26) hx hb d_Parts_newUnitsAt_109 (by decide) ?_
        exact ih σ v1 v2 v3 v4 v5 v6 (v7 + 1) (by first | (rw [gO_w]; exact up_step hI (by assumption)) | exact up_step hI (by assumption)) hR _ _ hB ls (lv_sub hl [2, 3, 4, 5, 6, 7, 8, 0] rfl)
      · rw [if_pos c_2] at hR
        refine lv_aload_n hx hb d_Parts_newUnitsAt_61 rfl (lv_at hl 1 rfl) ?_
        refine gt hC hB _ lkC_Parts rfl i_Parts 7 (by decide) rfl kw_147 rfl d_Parts_newUnitsAt_62 ?_
        refine lv_iload hx hb d_Parts_newUnitsAt_65 (lv_at hl 0 rfl) ?_
        refine kSN hC hB (c_ST_read 6 (by decide) σ π (m_Parts_partAt σ v4 v7)) allw_ok mf_ST_read kw_217 nw_6 ⟨rfl, rfl, Nat.le_of_ble_eq_true rfl, Nat.le_of_ble_eq_true rfl⟩ rfl rfl hl.1 (Nat.le_of_ble_eq_true rfl) d_Parts_newUnitsAt_67 ⟨Nat.le_of_ble_eq_true rfl, Nat.le_of_ble_eq_true rfl⟩ (roK fun H locs hB => ?_)
        refine lv_iload hx hb d_Parts_newUnitsAt_70 (lv_at hl 6 rfl) ?_
        refine lv_icmp_ne (tgt := 106) hx hb d_Parts_newUnitsAt_72 (by decide) (fun c_3 => ?_) (fun c_3 => ?_)
        · rw [if_neg c_3] at hR
          refine lv_iinc (v := (v7 + 1)) (lv' := [(7, .int (v7 + 1)), (8, .int (m_Parts_partAt σ v4 v7)), (0, .ref (G 0 5)), (1, .int v1), (2, .int v2), (3, .int v3), (4, .int v4), (5, .int v5), (6, .int v6)]) hx hb d_Parts_newUnitsAt_106 hl (k := 8) rfl rfl (by decide) rfl (fun ls hl => ?_)
          refine lv_goto (tgt := 26) hx hb d_Parts_newUnitsAt_109 (by decide) ?_
          exact ih σ v1 v2 v3 v4 v5 v6 (v7 + 1) (by first | (rw [gO_w]; exact up_step hI (by assumption)) | exact up_step hI (by assumption)) hR _ _ hB ls (lv_sub hl [2, 3, 4, 5, 6, 7, 8, 0] rfl)
        · rw [if_pos c_3] at hR
          refine lv_aload_n hx hb d_Parts_newUnitsAt_75 rfl (lv_at hl 1 rfl) ?_
          refine gt hC hB _ lkC_Parts rfl i_Parts 7 (by decide) rfl kw_147 rfl d_Parts_newUnitsAt_76 ?_
          refine lv_iload hx hb d_Parts_newUnitsAt_79 (lv_at hl 0 rfl) ?_
          refine lv_iload hx hb d_Parts_newUnitsAt_81 (lv_at hl 6 rfl) ?_
          refine lv_iconst (v := 1) hx hb d_Parts_newUnitsAt_83 (by decide) ?_
          refine lv_iadd hx hb d_Parts_newUnitsAt_84 ?_
          refine kSN hC hB (c_ST_write 6 (by decide) σ π (m_Parts_partAt σ v4 v7) (v5 + 1)) allw_ok mf_ST_write kw_210 nw_7 ⟨rfl, rfl, Nat.le_of_ble_eq_true rfl, Nat.le_of_ble_eq_true rfl⟩ rfl rfl hl.1 (Nat.le_of_ble_eq_true rfl) d_Parts_newUnitsAt_85 ⟨Nat.le_of_ble_eq_true rfl, Nat.le_of_ble_eq_true rfl⟩ (roK fun H locs hB => ?_)
          refine lv_iinc (v := (v6 + 1)) (lv' := [(6, .int (v6 + 1)), (8, .int (m_Parts_partAt σ v4 v7)), (0, .ref (G 0 5)), (1, .int v1), (2, .int v2), (3, .int v3), (4, .int v4), (5, .int v5), (7, .int v7)]) hx hb d_Parts_newUnitsAt_88 hl (k := 7) rfl rfl (by decide) rfl (fun ls hl => ?_)
          refine lv_iload hx hb d_Parts_newUnitsAt_91 (lv_at hl 1 rfl) ?_
          refine lv_iload_n hx hb d_Parts_newUnitsAt_93 rfl (lv_at hl 4 rfl) ?_
          refine lv_icmp_ne (tgt := 106) hx hb d_Parts_newUnitsAt_94 (by decide) (fun c_4 => ?_) (fun c_4 => ?_)
          · rw [if_neg c_4] at hR
            refine lv_iinc (v := (v7 + 1)) (lv' := [(7, .int (v7 + 1)), (6, .int (v6 + 1)), (8, .int (m_Parts_partAt σ v4 v7)), (0, .ref (G 0 5)), (1, .int v1), (2, .int v2), (3, .int v3), (4, .int v4), (5, .int v5)]) hx hb d_Parts_newUnitsAt_106 hl (k := 8) rfl rfl (by decide) rfl (fun ls hl => ?_)
            refine lv_goto (tgt := 26) hx hb d_Parts_newUnitsAt_109 (by decide) ?_
            exact ih (m_ST_write σ 6 (m_Parts_partAt σ v4 v7) (v5 + 1)) v1 v2 v3 v4 v5 (v6 + 1) (v7 + 1) (by first | (rw [gO_w]; exact up_step hI (by assumption)) | exact up_step hI (by assumption)) hR _ _ hB ls (lv_sub hl [3, 4, 5, 6, 7, 8, 1, 0] rfl)
          · rw [if_pos c_4] at hR
            refine lv_iload hx hb d_Parts_newUnitsAt_97 (lv_at hl 7 rfl) ?_
            refine lv_iload_n hx hb d_Parts_newUnitsAt_99 rfl (lv_at hl 5 rfl) ?_
            refine lv_icmp_ne (tgt := 106) hx hb d_Parts_newUnitsAt_100 (by decide) (fun c_5 => ?_) (fun c_5 => ?_)
            · rw [if_neg c_5] at hR
              refine lv_iinc (v := (v7 + 1)) (lv' := [(7, .int (v7 + 1)), (6, .int (v6 + 1)), (8, .int (m_Parts_partAt σ v4 v7)), (0, .ref (G 0 5)), (1, .int v1), (2, .int v2), (3, .int v3), (4, .int v4), (5, .int v5)]) hx hb d_Parts_newUnitsAt_106 hl (k := 8) rfl rfl (by decide) rfl (fun ls hl => ?_)
              refine lv_goto (tgt := 26) hx hb d_Parts_newUnitsAt_109 (by decide) ?_
              exact ih (m_ST_write σ 6 (m_Parts_partAt σ v4 v7) (v5 + 1)) v1 v2 v3 v4 v5 (v6 + 1) (v7 + 1) (by first | (rw [gO_w]; exact up_step hI (by assumption)) | exact up_step hI (by assumption)) hR _ _ hB ls (lv_sub hl [3, 4, 5, 6, 7, 8, 1, 0] rfl)
            · rw [if_pos c_5] at hR
              refine lv_iload hx hb d_Parts_newUnitsAt_103 (lv_at hl 0 rfl) ?_
              obtain ⟨rfl, rfl⟩ := Prod.mk.inj hR
              exact ri hC hB rfl d_Parts_newUnitsAt_105

set_option maxHeartbeats 400000 in
set_option maxRecDepth 100000 in
theorem c_Parts_newUnitsAt  (σ : SC) (π : PJ) (x0 : Int32) (x1 : Int32) (x2 : Int32) : CM l y_Parts_newUnitsAt b_Parts_newUnitsAt 9 (some .int) { frames := 3, cells := 0, slots := 0, locals := 65 } D (tyL cI cL cQ) N0 N0 [.ref (G 0 5), .int x0, .int x1, .int x2] (wsC G cI cL cQ σ π rest) (some (.int ((m_Parts_newUnitsAt σ x0 x1 x2).1))) (fun w => w = wsC G cI cL cQ ((m_Parts_newUnitsAt σ x0 x1 x2).2) π rest) 0 0 := by
  generalize hR : m_Parts_newUnitsAt σ x0 x1 x2 = RES
  obtain ⟨RV, RS⟩ := RES
  dsimp only
  refine met_of (own := R_Parts) (by decide) rfl nwl_ok ?_
  intro p e s m below meth c hC hin hB
  have hx := hC.1
  have hb := hC.2.1
  have hl := lv_entry ([.ref (G 0 5), .int x0, .int x1, .int x2]) (n := 9) (Nat.le_of_ble_eq_true rfl)
  rw [lg_entry_eq]
  generalize (lg_sl ([.ref (G 0 5), .int x0, .int x1, .int x2]) ++ List.replicate (9 - (lg_sl ([.ref (G 0 5), .int x0, .int x1, .int x2])).length) Slot.unset).toArray = ls at hl ⊢
  have hl : lv_has ls 9 [(0, .ref (G 0 5)), (1, .int x0), (2, .int x1), (3, .int x2)] := hl
  rw [m_Parts_newUnitsAt] at hR
  refine lv_aload_n hx hb d_Parts_newUnitsAt_0 rfl (lv_at hl 0 rfl) ?_
  refine gt hC hB _ lkC_Parts rfl i_Parts 0 (by decide) rfl kw_140 rfl d_Parts_newUnitsAt_1 ?_
  refine lv_iload_n hx hb d_Parts_newUnitsAt_4 rfl (lv_at hl 1 rfl) ?_
  refine kV hC hB _ lkC_Book rfl (c_Book_sheetAt σ π x0) allw_ok mf_Book_sheetAt kw_221 kw_222 kw_881 ⟨rfl, rfl, Nat.le_of_ble_eq_true rfl, Nat.le_of_ble_eq_true rfl⟩ rfl rfl hl.1 (Nat.le_of_ble_eq_true rfl) d_Parts_newUnitsAt_5 ⟨Nat.le_of_ble_eq_true rfl, Nat.le_of_ble_eq_true rfl⟩ (roK fun H locs hB => ?_)
  refine lv_istore (lv' := [(4, .int (m_Book_sheetAt σ x0)), (0, .ref (G 0 5)), (1, .int x0), (2, .int x1), (3, .int x2)]) hx hb d_Parts_newUnitsAt_8 hl (by decide) rfl (fun ls hl => ?_)
  refine lv_aload_n hx hb d_Parts_newUnitsAt_10 rfl (lv_at hl 1 rfl) ?_
  refine gt hC hB _ lkC_Parts rfl i_Parts 0 (by decide) rfl kw_140 rfl d_Parts_newUnitsAt_11 ?_
  refine lv_iload_n hx hb d_Parts_newUnitsAt_14 rfl (lv_at hl 2 rfl) ?_
  refine kV hC hB _ lkC_Book rfl (c_Book_comingAt σ π x0) allw_ok mf_Book_comingAt kw_862 kw_863 kw_882 ⟨rfl, rfl, Nat.le_of_ble_eq_true rfl, Nat.le_of_ble_eq_true rfl⟩ rfl rfl hl.1 (Nat.le_of_ble_eq_true rfl) d_Parts_newUnitsAt_15 ⟨Nat.le_of_ble_eq_true rfl, Nat.le_of_ble_eq_true rfl⟩ (roK fun H locs hB => ?_)
  refine lv_istore (lv' := [(5, .int (m_Book_comingAt σ x0)), (4, .int (m_Book_sheetAt σ x0)), (0, .ref (G 0 5)), (1, .int x0), (2, .int x1), (3, .int x2)]) hx hb d_Parts_newUnitsAt_18 hl (by decide) rfl (fun ls hl => ?_)
  refine lv_iconst (v := 0) hx hb d_Parts_newUnitsAt_20 (by decide) ?_
  refine lv_istore (lv' := [(6, .int 0), (5, .int (m_Book_comingAt σ x0)), (4, .int (m_Book_sheetAt σ x0)), (0, .ref (G 0 5)), (1, .int x0), (2, .int x1), (3, .int x2)]) hx hb d_Parts_newUnitsAt_21 hl (by decide) rfl (fun ls hl => ?_)
  refine lv_iconst (v := 0) hx hb d_Parts_newUnitsAt_23 (by decide) ?_
  refine lv_istore (lv' := [(7, .int 0), (6, .int 0), (5, .int (m_Book_comingAt σ x0)), (4, .int (m_Book_sheetAt σ x0)), (0, .ref (G 0 5)), (1, .int x0), (2, .int x1), (3, .int x2)]) hx hb d_Parts_newUnitsAt_24 hl (by decide) rfl (fun ls hl => ?_)
  exact w_Parts_newUnitsAt_26  π hC ((m_Parts_gatesOn σ (m_Book_sheetAt σ x0)).toNatClampNeg + 1) σ x0 x1 x2 (m_Book_sheetAt σ x0) (m_Book_comingAt σ x0) 0 0 (up_init _) hR _ _ hB ls (lv_sub hl [4, 5, 6, 7, 3, 2, 1, 0] rfl)

set_option maxHeartbeats 400000 in
set_option maxRecDepth 100000 in
theorem w_Parts_numberOf_14 {p : Program} {e : Env} {s : State} {m : MethodId} {args : Array Value} {below : List Frame} {meth : Method} {c : Code} {RES : Int32 × SC}  (π : PJ) (hC : cx D classes (tyL cI cL cQ) NWL ALLW N0 p s m args meth c b_Parts_numberOf 6 (some .int) R_Parts) :
    ∀ (n : Nat) (σ : SC) (v1 : Int32) (v2 : Int32) (v3 : Bool) (v4 : Int32) (v5 : Int32), upI n (m_Book_count σ) v5 → lp_Parts_numberOf_14 n σ  v1 v2 v3 v4 v5 = RES → ∀ (H : Heap) (locs : List Loc), bd D classes N0 N0 (wsC G cI cL cQ σ π rest) s H locs → ∀ (ls : Array Slot), lv_has ls 6 [(0, .ref (G 0 5)), (1, .int v1), (2, .int v2), (3, .int (bi v3)), (4, .int v4), (5, .int v5)] → W p l e { frames := 4, cells := 0, slots := 0, locals := 93 } s m args below meth c H locs 0 0 (MQ below (qx D classes N0 N0 (some (.int RES.1)) (fun w => w = wsC G cI cL cQ RES.2 π rest)) args s 0 0 (ga N0)) (F0 m 14 ls []) := by
  obtain ⟨RV, RS⟩ := RES
  dsimp only
  have hx := hC.1
  have hb := hC.2.1
  intro n
  induction n with
  | zero =>
    intro σ v1 v2 v3 v4 v5 hI
    exact absurd hI up_zero
  | succ n ih =>
    intro σ v1 v2 v3 v4 v5 hI hR H locs hB ls hl
    rw [lp_Parts_numberOf_14] at hR
    refine lv_iload hx hb d_Parts_numberOf_14 (lv_at hl 5 rfl) ?_
    refine lv_aload_n hx hb d_Parts_numberOf_16 rfl (lv_at hl 0 rfl) ?_
    refine gt hC hB _ lkC_Parts rfl i_Parts 0 (by decide) rfl kw_140 rfl d_Parts_numberOf_17 ?_
    refine kV hC hB _ lkC_Book rfl (c_Book_count σ π) allw_ok mf_Book_count kw_376 kw_377 kw_876 ⟨rfl, rfl, Nat.le_of_ble_eq_true rfl, Nat.le_of_ble_eq_true rfl⟩ rfl rfl hl.1 (Nat.le_of_ble_eq_true rfl) d_Parts_numberOf_20 ⟨Nat.le_of_ble_eq_true rfl, Nat.le_of_ble_eq_true rfl⟩ (roK fun H locs hB => ?_)
    refine lv_icmp_ge (tgt := 71) hx hb d_Parts_numberOf_23 (by decide) (fun c_1 => ?_) (fun c_1 => ?_)
    · rw [if_pos c_1] at hR
      refine lv_iconst (v := (-1)) hx hb d_Parts_numberOf_71 (by decide) ?_
      obtain ⟨rfl, rfl⟩ := Prod.mk.inj hR
      exact ri hC hB rfl d_Parts_numberOf_72
    · rw [if_neg c_1] at hR
      refine lv_iload_n hx hb d_Parts_numberOf_26 rfl (lv_at hl 3 rfl) ?_
      refine lv_if_eq (tgt := 37) hx hb d_Parts_numberOf_27 (by decide) (fun c_2 => ?_) (fun c_2 => ?_)
      · rw [if_pos c_2] at hR
        refine lv_iload hx hb d_Parts_numberOf_37 (lv_at hl 4 rfl) ?_
        refine lv_aload_n hx hb d_Parts_numberOf_39 rfl (lv_at hl 0 rfl) ?_
        refine lv_iload hx hb d_Parts_numberOf_40 (lv_at hl 5 rfl) ?_
        refine lv_iload_n hx hb d_Parts_numberOf_42 rfl (lv_at hl 1 rfl) ?_
        refine lv_iload_n hx hb d_Parts_numberOf_43 rfl (lv_at hl 2 rfl) ?_
        refine kV hC hB _ lkC_Parts rfl (c_Parts_newUnitsAt σ π v5 v1 v2) allw_ok mf_Parts_newUnitsAt kw_879 ks_28 kw_877 ⟨rfl, rfl, Nat.le_of_ble_eq_true rfl, Nat.le_of_ble_eq_true rfl⟩ rfl rfl hl.1 (Nat.le_of_ble_eq_true rfl) d_Parts_numberOf_44 ⟨Nat.le_of_ble_eq_true rfl, Nat.le_of_ble_eq_true rfl⟩ (roK fun H locs hB => ?_)
        refine lv_iadd hx hb d_Parts_numberOf_47 ?_
        refine lv_istore (lv' := [(4, .int (v4 + (m_Parts_newUnitsAt σ v5 v1 v2).1)), (0, .ref (G 0 5)), (1, .int v1), (2, .int v2), (3, .int (bi v3)), (5, .int v5)]) hx hb d_Parts_numberOf_48 hl (by decide) rfl (fun ls hl => ?_)
        refine lv_aload_n hx hb d_Parts_numberOf_50 rfl (lv_at hl 1 rfl) ?_
        refine gt hC hB _ lkC_Parts rfl i_Parts 7 (by decide) rfl kw_147 rfl d_Parts_numberOf_51 ?_
        refine lv_iload_n hx hb d_Parts_numberOf_54 rfl (lv_at hl 2 rfl) ?_
        refine kSN hC hB (c_ST_read 6 (by decide) ((m_Parts_newUnitsAt σ v5 v1 v2).2) π v1) allw_ok mf_ST_read kw_217 nw_6 ⟨rfl, rfl, Nat.le_of_ble_eq_true rfl, Nat.le_of_ble_eq_true rfl⟩ rfl rfl hl.1 (Nat.le_of_ble_eq_true rfl) d_Parts_numberOf_55 ⟨Nat.le_of_ble_eq_true rfl, Nat.le_of_ble_eq_true rfl⟩ (roK fun H locs hB => ?_)
        refine lv_iload_n hx hb d_Parts_numberOf_58 rfl (lv_at hl 3 rfl) ?_
        refine lv_icmp_le (tgt := 65) hx hb d_Parts_numberOf_59 (by decide) (fun c_3 => ?_) (fun c_3 => ?_)
        · rw [if_pos c_3] at hR
          refine lv_iinc (v := (v5 + 1)) (lv' := [(5, .int (v5 + 1)), (4, .int (v4 + (m_Parts_newUnitsAt σ v5 v1 v2).1)), (0, .ref (G 0 5)), (1, .int v1), (2, .int v2), (3, .int (bi v3))]) hx hb d_Parts_numberOf_65 hl (k := 5) rfl rfl (by decide) rfl (fun ls hl => ?_)
          refine lv_goto (tgt := 14) hx hb d_Parts_numberOf_68 (by decide) ?_
          exact ih ((m_Parts_newUnitsAt σ v5 v1 v2).2) v1 v2 v3 (v4 + (m_Parts_newUnitsAt σ v5 v1 v2).1) (v5 + 1) (by first | (rw [bC_n]; exact up_step hI (by assumption)) | exact up_step hI (by assumption)) hR _ _ hB ls (lv_sub hl [2, 3, 4, 5, 1, 0] rfl)
        · rw [if_neg c_3] at hR
          refine lv_iload hx hb d_Parts_numberOf_62 (lv_at hl 0 rfl) ?_
          obtain ⟨rfl, rfl⟩ := Prod.mk.inj hR
          exact ri hC hB rfl d_Parts_numberOf_64
      · rw [if_neg c_2] at hR
        refine lv_iload hx hb d_Parts_numberOf_30 (lv_at hl 5 rfl) ?_
        refine lv_bipush (v := 100) hx hb d_Parts_numberOf_32 (by decide) ?_
        refine lv_imul hx hb d_Parts_numberOf_34 ?_
        refine lv_istore (lv' := [(4, .int (v5 * 100)), (0, .ref (G 0 5)), (1, .int v1), (2, .int v2), (3, .int (bi v3)), (5, .int v5)]) hx hb d_Parts_numberOf_35 hl (by decide) rfl (fun ls hl => ?_)
        refine lv_iload hx hb d_Parts_numberOf_37 (lv_at hl 0 rfl) ?_
        refine lv_aload_n hx hb d_Parts_numberOf_39 rfl (lv_at hl 1 rfl) ?_
        refine lv_iload hx hb d_Parts_numberOf_40 (lv_at hl 5 rfl) ?_
        refine lv_iload_n hx hb d_Parts_numberOf_42 rfl (lv_at hl 2 rfl) ?_
        refine lv_iload_n hx hb d_Parts_numberOf_43 rfl (lv_at hl 3 rfl) ?_
        refine kV hC hB _ lkC_Parts rfl (c_Parts_newUnitsAt σ π v5 v1 v2) allw_ok mf_Parts_newUnitsAt kw_879 ks_28 kw_877 ⟨rfl, rfl, Nat.le_of_ble_eq_true rfl, Nat.le_of_ble_eq_true rfl⟩ rfl rfl hl.1 (Nat.le_of_ble_eq_true rfl) d_Parts_numberOf_44 ⟨Nat.le_of_ble_eq_true rfl, Nat.le_of_ble_eq_true rfl⟩ (roK fun H locs hB => ?_)
        refine lv_iadd hx hb d_Parts_numberOf_47 ?_
        refine lv_istore (lv' := [(4, .int ((v5 * 100) + (m_Parts_newUnitsAt σ v5 v1 v2).1)), (0, .ref (G 0 5)), (1, .int v1), (2, .int v2), (3, .int (bi v3)), (5, .int v5)]) hx hb d_Parts_numberOf_48 hl (by decide) rfl (fun ls hl => ?_)
        refine lv_aload_n hx hb d_Parts_numberOf_50 rfl (lv_at hl 1 rfl) ?_
        refine gt hC hB _ lkC_Parts rfl i_Parts 7 (by decide) rfl kw_147 rfl d_Parts_numberOf_51 ?_
        refine lv_iload_n hx hb d_Parts_numberOf_54 rfl (lv_at hl 2 rfl) ?_
        refine kSN hC hB (c_ST_read 6 (by decide) ((m_Parts_newUnitsAt σ v5 v1 v2).2) π v1) allw_ok mf_ST_read kw_217 nw_6 ⟨rfl, rfl, Nat.le_of_ble_eq_true rfl, Nat.le_of_ble_eq_true rfl⟩ rfl rfl hl.1 (Nat.le_of_ble_eq_true rfl) d_Parts_numberOf_55 ⟨Nat.le_of_ble_eq_true rfl, Nat.le_of_ble_eq_true rfl⟩ (roK fun H locs hB => ?_)
        refine lv_iload_n hx hb d_Parts_numberOf_58 rfl (lv_at hl 3 rfl) ?_
        refine lv_icmp_le (tgt := 65) hx hb d_Parts_numberOf_59 (by decide) (fun c_4 => ?_) (fun c_4 => ?_)
        · rw [if_pos c_4] at hR
          refine lv_iinc (v := (v5 + 1)) (lv' := [(5, .int (v5 + 1)), (4, .int ((v5 * 100) + (m_Parts_newUnitsAt σ v5 v1 v2).1)), (0, .ref (G 0 5)), (1, .int v1), (2, .int v2), (3, .int (bi v3))]) hx hb d_Parts_numberOf_65 hl (k := 5) rfl rfl (by decide) rfl (fun ls hl => ?_)
          refine lv_goto (tgt := 14) hx hb d_Parts_numberOf_68 (by decide) ?_
          exact ih ((m_Parts_newUnitsAt σ v5 v1 v2).2) v1 v2 v3 ((v5 * 100) + (m_Parts_newUnitsAt σ v5 v1 v2).1) (v5 + 1) (by first | (rw [bC_n]; exact up_step hI (by assumption)) | exact up_step hI (by assumption)) hR _ _ hB ls (lv_sub hl [2, 3, 4, 5, 1, 0] rfl)
        · rw [if_neg c_4] at hR
          refine lv_iload hx hb d_Parts_numberOf_62 (lv_at hl 0 rfl) ?_
          obtain ⟨rfl, rfl⟩ := Prod.mk.inj hR
          exact ri hC hB rfl d_Parts_numberOf_64

set_option maxHeartbeats 400000 in
set_option maxRecDepth 100000 in
theorem c_Parts_numberOf  (σ : SC) (π : PJ) (x0 : Int32) (x1 : Int32) (x2 : Bool) : CM l y_Parts_numberOf b_Parts_numberOf 6 (some .int) { frames := 4, cells := 0, slots := 0, locals := 93 } D (tyL cI cL cQ) N0 N0 [.ref (G 0 5), .int x0, .int x1, .int (bi x2)] (wsC G cI cL cQ σ π rest) (some (.int ((m_Parts_numberOf σ x0 x1 x2).1))) (fun w => w = wsC G cI cL cQ ((m_Parts_numberOf σ x0 x1 x2).2) π rest) 0 0 := by
  generalize hR : m_Parts_numberOf σ x0 x1 x2 = RES
  obtain ⟨RV, RS⟩ := RES
  dsimp only
  refine met_of (own := R_Parts) (by decide) rfl nwl_ok ?_
  intro p e s m below meth c hC hin hB
  have hx := hC.1
  have hb := hC.2.1
  have hl := lv_entry ([.ref (G 0 5), .int x0, .int x1, .int (bi x2)]) (n := 6) (Nat.le_of_ble_eq_true rfl)
  rw [lg_entry_eq]
  generalize (lg_sl ([.ref (G 0 5), .int x0, .int x1, .int (bi x2)]) ++ List.replicate (6 - (lg_sl ([.ref (G 0 5), .int x0, .int x1, .int (bi x2)])).length) Slot.unset).toArray = ls at hl ⊢
  have hl : lv_has ls 6 [(0, .ref (G 0 5)), (1, .int x0), (2, .int x1), (3, .int (bi x2))] := hl
  rw [m_Parts_numberOf] at hR
  refine lv_aload_n hx hb d_Parts_numberOf_0 rfl (lv_at hl 0 rfl) ?_
  refine gt hC hB _ lkC_Parts rfl i_Parts 7 (by decide) rfl kw_147 rfl d_Parts_numberOf_1 ?_
  refine lv_iconst (v := 0) hx hb d_Parts_numberOf_4 (by decide) ?_
  refine kS hC hB (c_Arrays_fillI 6 (by decide) σ π 0) allw_ok mf_Arrays_fillI kw_203 kw_673 ⟨rfl, rfl, Nat.le_of_ble_eq_true rfl, Nat.le_of_ble_eq_true rfl⟩ rfl rfl hl.1 (Nat.le_of_ble_eq_true rfl) d_Parts_numberOf_5 ⟨Nat.le_of_ble_eq_true rfl, Nat.le_of_ble_eq_true rfl⟩ (roK fun H locs hB => ?_)
  refine lv_iconst (v := 0) hx hb d_Parts_numberOf_8 (by decide) ?_
  refine lv_istore (lv' := [(4, .int 0), (0, .ref (G 0 5)), (1, .int x0), (2, .int x1), (3, .int (bi x2))]) hx hb d_Parts_numberOf_9 hl (by decide) rfl (fun ls hl => ?_)
  refine lv_iconst (v := 0) hx hb d_Parts_numberOf_11 (by decide) ?_
  refine lv_istore (lv' := [(5, .int 0), (4, .int 0), (0, .ref (G 0 5)), (1, .int x0), (2, .int x1), (3, .int (bi x2))]) hx hb d_Parts_numberOf_12 hl (by decide) rfl (fun ls hl => ?_)
  exact w_Parts_numberOf_14  π hC ((m_Book_count (m_Arrays_fillI σ 6 0)).toNatClampNeg + 1) (m_Arrays_fillI σ 6 0) x0 x1 x2 0 0 (up_init _) hR _ _ hB ls (lv_sub hl [2, 3, 4, 5, 1, 0] rfl)

set_option maxHeartbeats 400000 in
set_option maxRecDepth 100000 in
theorem c_Parts_addPart  (σ : SC) (π : PJ) (hπ : RJ π σ) (x0 : Int32) (x1 : Int32) : CM l y_Parts_addPart b_Parts_addPart 4 (some .int) { frames := 4, cells := 3, slots := 12, locals := 87 } D (tyL cI cL cQ) N0 N0 [.ref (G 0 5), .int x0, .int x1] (wsC G cI cL cQ σ π rest) (some (.int ((m_Parts_addPart σ x0 x1).1))) (pwC G cI cL cQ ((m_Parts_addPart σ x0 x1).2) rest) 3 12 := by
  generalize hR : m_Parts_addPart σ x0 x1 = RES
  obtain ⟨RV, RS⟩ := RES
  dsimp only
  refine met_of (own := R_Parts) (by decide) rfl nwl_ok ?_
  intro p e s m below meth c hC hin hB
  have hx := hC.1
  have hb := hC.2.1
  have hl := lv_entry ([.ref (G 0 5), .int x0, .int x1]) (n := 4) (Nat.le_of_ble_eq_true rfl)
  rw [lg_entry_eq]
  generalize (lg_sl ([.ref (G 0 5), .int x0, .int x1]) ++ List.replicate (4 - (lg_sl ([.ref (G 0 5), .int x0, .int x1])).length) Slot.unset).toArray = ls at hl ⊢
  have hl : lv_has ls 4 [(0, .ref (G 0 5)), (1, .int x0), (2, .int x1)] := hl
  rw [m_Parts_addPart] at hR
  refine lv_aload_n hx hb d_Parts_addPart_0 rfl (lv_at hl 0 rfl) ?_
  refine gt hC hB _ lkC_Parts rfl i_Parts 1 (by decide) rfl kw_141 rfl d_Parts_addPart_1 ?_
  refine lv_iconst (v := 0) hx hb d_Parts_addPart_4 (by decide) ?_
  refine kV hC hB _ (lkC_row (by decide)) rfl (c_Row_at 6 (by decide) σ π 0) allw_ok mf_Row_at kw_233 kw_234 kw_613 ⟨rfl, rfl, Nat.le_of_ble_eq_true rfl, Nat.le_of_ble_eq_true rfl⟩ rfl rfl hl.1 (Nat.le_of_ble_eq_true rfl) d_Parts_addPart_5 ⟨Nat.le_of_ble_eq_true rfl, Nat.le_of_ble_eq_true rfl⟩ (roK fun H locs hB => ?_)
  refine lv_istore_n (lv' := [(3, .int (m_Row_at σ 6 0)), (0, .ref (G 0 5)), (1, .int x0), (2, .int x1)]) hx hb d_Parts_addPart_8 rfl hl (by decide) rfl (fun ls hl => ?_)
  refine lv_aload_n hx hb d_Parts_addPart_9 rfl (lv_at hl 1 rfl) ?_
  refine gt hC hB _ lkC_Parts rfl i_Parts 1 (by decide) rfl kw_141 rfl d_Parts_addPart_10 ?_
  refine lv_iconst (v := 0) hx hb d_Parts_addPart_13 (by decide) ?_
  refine lv_iload_n hx hb d_Parts_addPart_14 rfl (lv_at hl 0 rfl) ?_
  refine lv_iconst (v := 1) hx hb d_Parts_addPart_15 (by decide) ?_
  refine lv_iadd hx hb d_Parts_addPart_16 ?_
  refine lv_i2l hx hb d_Parts_addPart_17 rfl ?_
  refine kV hC hB _ (lkC_row (by decide)) rfl (c_Row_set 6 (by decide) σ π hπ 0 (((m_Row_at σ 6 0) + 1).toInt64)) allw_ok mf_Row_set kw_292 kw_293 kw_618 ⟨rfl, rfl, Nat.le_of_ble_eq_true rfl, Nat.le_of_ble_eq_true rfl⟩ rfl rfl hl.1 (Nat.le_of_ble_eq_true rfl) d_Parts_addPart_18 ⟨Nat.le_of_ble_eq_true rfl, Nat.le_of_ble_eq_true rfl⟩ (fun H locs w hw hB => ?_)
  obtain ⟨π, hπ, rfl⟩ := hw
  refine lv_aload_n hx hb d_Parts_addPart_21 rfl (lv_at hl 1 rfl) ?_
  refine gt hC hB _ lkC_Parts rfl i_Parts 2 (by decide) rfl kw_142 rfl d_Parts_addPart_22 ?_
  refine lv_iload_n hx hb d_Parts_addPart_25 rfl (lv_at hl 0 rfl) ?_
  refine lv_iload_n hx hb d_Parts_addPart_26 rfl (lv_at hl 2 rfl) ?_
  refine lv_i2l hx hb d_Parts_addPart_27 rfl ?_
  refine kV hC hB _ (lkC_row (by decide)) rfl (c_Row_set 7 (by decide) (m_Row_set σ 6 0 (((m_Row_at σ 6 0) + 1).toInt64)) π hπ (m_Row_at σ 6 0) x0.toInt64) allw_ok mf_Row_set kw_292 kw_293 kw_618 ⟨rfl, rfl, Nat.le_of_ble_eq_true rfl, Nat.le_of_ble_eq_true rfl⟩ rfl rfl hl.1 (Nat.le_of_ble_eq_true rfl) d_Parts_addPart_28 ⟨Nat.le_of_ble_eq_true rfl, Nat.le_of_ble_eq_true rfl⟩ (fun H locs w hw hB => ?_)
  obtain ⟨π, hπ, rfl⟩ := hw
  refine lv_aload_n hx hb d_Parts_addPart_31 rfl (lv_at hl 1 rfl) ?_
  refine gt hC hB _ lkC_Parts rfl i_Parts 3 (by decide) rfl kw_143 rfl d_Parts_addPart_32 ?_
  refine lv_iload_n hx hb d_Parts_addPart_35 rfl (lv_at hl 0 rfl) ?_
  refine lv_iload_n hx hb d_Parts_addPart_36 rfl (lv_at hl 3 rfl) ?_
  refine lv_i2l hx hb d_Parts_addPart_37 rfl ?_
  refine kV hC hB _ (lkC_row (by decide)) rfl (c_Row_set 8 (by decide) (m_Row_set (m_Row_set σ 6 0 (((m_Row_at σ 6 0) + 1).toInt64)) 7 (m_Row_at σ 6 0) x0.toInt64) π hπ (m_Row_at σ 6 0) x1.toInt64) allw_ok mf_Row_set kw_292 kw_293 kw_618 ⟨rfl, rfl, Nat.le_of_ble_eq_true rfl, Nat.le_of_ble_eq_true rfl⟩ rfl rfl hl.1 (Nat.le_of_ble_eq_true rfl) d_Parts_addPart_38 ⟨Nat.le_of_ble_eq_true rfl, Nat.le_of_ble_eq_true rfl⟩ (fun H locs w hw hB => ?_)
  obtain ⟨π, hπ, rfl⟩ := hw
  refine lv_iload_n hx hb d_Parts_addPart_41 rfl (lv_at hl 0 rfl) ?_
  obtain ⟨rfl, rfl⟩ := Prod.mk.inj hR
  refine W.widen (k := 3) (n := 12) (Nat.le_of_ble_eq_true rfl) (Nat.le_of_ble_eq_true rfl) ?_
  exact ri hC hB ⟨π, hπ, rfl⟩ d_Parts_addPart_42

set_option maxHeartbeats 400000 in
set_option maxRecDepth 100000 in
theorem c_Parts_layGate  (σ : SC) (π : PJ) (hπ : RJ π σ) (x0 : Int32) (x1 : Int32) (x2 : Int32) : CM l y_Parts_layGate b_Parts_layGate 5 (none) { frames := 4, cells := 3, slots := 12, locals := 87 } D (tyL cI cL cQ) N0 N0 [.ref (G 0 5), .int x0, .int x1, .int x2] (wsC G cI cL cQ σ π rest) (none) (pwC G cI cL cQ (m_Parts_layGate σ x0 x1 x2) rest) 3 12 := by
  generalize hR : m_Parts_layGate σ x0 x1 x2 = RES
  refine met_of (own := R_Parts) (by decide) rfl nwl_ok ?_
  intro p e s m below meth c hC hin hB
  have hx := hC.1
  have hb := hC.2.1
  have hl := lv_entry ([.ref (G 0 5), .int x0, .int x1, .int x2]) (n := 5) (Nat.le_of_ble_eq_true rfl)
  rw [lg_entry_eq]
  generalize (lg_sl ([.ref (G 0 5), .int x0, .int x1, .int x2]) ++ List.replicate (5 - (lg_sl ([.ref (G 0 5), .int x0, .int x1, .int x2])).length) Slot.unset).toArray = ls at hl ⊢
  have hl : lv_has ls 5 [(0, .ref (G 0 5)), (1, .int x0), (2, .int x1), (3, .int x2)] := hl
  rw [m_Parts_layGate] at hR
  refine lv_aload_n hx hb d_Parts_layGate_0 rfl (lv_at hl 0 rfl) ?_
  refine lv_iload_n hx hb d_Parts_layGate_1 rfl (lv_at hl 1 rfl) ?_
  refine kV hC hB _ lkC_Parts rfl (c_Parts_gatesOn σ π x0) allw_ok mf_Parts_gatesOn kw_649 kw_650 kw_656 ⟨rfl, rfl, Nat.le_of_ble_eq_true rfl, Nat.le_of_ble_eq_true rfl⟩ rfl rfl hl.1 (Nat.le_of_ble_eq_true rfl) d_Parts_layGate_2 ⟨Nat.le_of_ble_eq_true rfl, Nat.le_of_ble_eq_true rfl⟩ (roK fun H locs hB => ?_)
  refine lv_istore (lv' := [(4, .int (m_Parts_gatesOn σ x0)), (0, .ref (G 0 5)), (1, .int x0), (2, .int x1), (3, .int x2)]) hx hb d_Parts_layGate_5 hl (by decide) rfl (fun ls hl => ?_)
  refine lv_aload_n hx hb d_Parts_layGate_7 rfl (lv_at hl 1 rfl) ?_
  refine gt hC hB _ lkC_Parts rfl i_Parts 4 (by decide) rfl kw_144 rfl d_Parts_layGate_8 ?_
  refine lv_iload_n hx hb d_Parts_layGate_11 rfl (lv_at hl 3 rfl) ?_
  refine lv_bipush (v := 8) hx hb d_Parts_layGate_12 (by decide) ?_
  refine lv_imul hx hb d_Parts_layGate_14 ?_
  refine lv_iload_n hx hb d_Parts_layGate_15 rfl (lv_at hl 4 rfl) ?_
  refine lv_iadd hx hb d_Parts_layGate_16 ?_
  refine lv_iload_n hx hb d_Parts_layGate_17 rfl (lv_at hl 2 rfl) ?_
  refine lv_i2l hx hb d_Parts_layGate_18 rfl ?_
  refine kV hC hB _ (lkC_row (by decide)) rfl (c_Row_set 9 (by decide) σ π hπ ((x1 * 8) + x2) x0.toInt64) allw_ok mf_Row_set kw_292 kw_293 kw_618 ⟨rfl, rfl, Nat.le_of_ble_eq_true rfl, Nat.le_of_ble_eq_true rfl⟩ rfl rfl hl.1 (Nat.le_of_ble_eq_true rfl) d_Parts_layGate_19 ⟨Nat.le_of_ble_eq_true rfl, Nat.le_of_ble_eq_true rfl⟩ (fun H locs w hw hB => ?_)
  obtain ⟨π, hπ, rfl⟩ := hw
  refine lv_aload_n hx hb d_Parts_layGate_22 rfl (lv_at hl 1 rfl) ?_
  refine gt hC hB _ lkC_Parts rfl i_Parts 5 (by decide) rfl kw_145 rfl d_Parts_layGate_23 ?_
  refine lv_iload_n hx hb d_Parts_layGate_26 rfl (lv_at hl 2 rfl) ?_
  refine lv_bipush (v := 20) hx hb d_Parts_layGate_27 (by decide) ?_
  refine lv_imul hx hb d_Parts_layGate_29 ?_
  refine lv_iload hx hb d_Parts_layGate_30 (lv_at hl 0 rfl) ?_
  refine lv_iadd hx hb d_Parts_layGate_32 ?_
  refine lv_iload_n hx hb d_Parts_layGate_33 rfl (lv_at hl 3 rfl) ?_
  refine lv_bipush (v := 8) hx hb d_Parts_layGate_34 (by decide) ?_
  refine lv_imul hx hb d_Parts_layGate_36 ?_
  refine lv_iload_n hx hb d_Parts_layGate_37 rfl (lv_at hl 4 rfl) ?_
  refine lv_iadd hx hb d_Parts_layGate_38 ?_
  refine lv_i2l hx hb d_Parts_layGate_39 rfl ?_
  refine kV hC hB _ (lkC_row (by decide)) rfl (c_Row_set 10 (by decide) (m_Row_set σ 9 ((x1 * 8) + x2) x0.toInt64) π hπ ((x0 * 20) + (m_Parts_gatesOn σ x0)) (((x1 * 8) + x2).toInt64)) allw_ok mf_Row_set kw_292 kw_293 kw_618 ⟨rfl, rfl, Nat.le_of_ble_eq_true rfl, Nat.le_of_ble_eq_true rfl⟩ rfl rfl hl.1 (Nat.le_of_ble_eq_true rfl) d_Parts_layGate_40 ⟨Nat.le_of_ble_eq_true rfl, Nat.le_of_ble_eq_true rfl⟩ (fun H locs w hw hB => ?_)
  obtain ⟨π, hπ, rfl⟩ := hw
  refine lv_aload_n hx hb d_Parts_layGate_43 rfl (lv_at hl 1 rfl) ?_
  refine gt hC hB _ lkC_Parts rfl i_Parts 6 (by decide) rfl kw_146 rfl d_Parts_layGate_44 ?_
  refine lv_iload_n hx hb d_Parts_layGate_47 rfl (lv_at hl 2 rfl) ?_
  refine lv_iload hx hb d_Parts_layGate_48 (lv_at hl 0 rfl) ?_
  refine lv_iconst (v := 1) hx hb d_Parts_layGate_50 (by decide) ?_
  refine lv_iadd hx hb d_Parts_layGate_51 ?_
  refine lv_i2l hx hb d_Parts_layGate_52 rfl ?_
  refine kV hC hB _ (lkC_row (by decide)) rfl (c_Row_set 11 (by decide) (m_Row_set (m_Row_set σ 9 ((x1 * 8) + x2) x0.toInt64) 10 ((x0 * 20) + (m_Parts_gatesOn σ x0)) (((x1 * 8) + x2).toInt64)) π hπ x0 (((m_Parts_gatesOn σ x0) + 1).toInt64)) allw_ok mf_Row_set kw_292 kw_293 kw_618 ⟨rfl, rfl, Nat.le_of_ble_eq_true rfl, Nat.le_of_ble_eq_true rfl⟩ rfl rfl hl.1 (Nat.le_of_ble_eq_true rfl) d_Parts_layGate_53 ⟨Nat.le_of_ble_eq_true rfl, Nat.le_of_ble_eq_true rfl⟩ (fun H locs w hw hB => ?_)
  obtain ⟨π, hπ, rfl⟩ := hw
  subst hR
  refine W.widen (k := 3) (n := 12) (Nat.le_of_ble_eq_true rfl) (Nat.le_of_ble_eq_true rfl) ?_
  exact rv hC hB ⟨π, hπ, rfl⟩ d_Parts_layGate_56
end SC
