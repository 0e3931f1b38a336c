def m_ST_place (σ : SC) (x0 : Int32) (x1 : Int32) : Option (Int32 × SC) :=
  match m_ST_needSheet σ x0 with
  | none => none
  | some u_1 =>
    match m_ST_needSheet σ x1 with
    | none => none
    | some u_2 =>
      if (m_Sheets_placementsLeft σ) < 1 then
        some ((-1), σ)
      else
        if (bi (m_Sheets_holds σ x1 x0)) = 0 then
          if (bi ((m_ST_settle ((m_Sheets_addPlacement σ x0 x1).2)).1)) = 0 then
            some ((-1), (m_ST_settle ((m_Sheets_addPlacement σ x0 x1).2)).2)
          else
            some ((m_Sheets_addPlacement σ x0 x1).1, (m_ST_settle ((m_Sheets_addPlacement σ x0 x1).2)).2)
        else
          some ((-1), σ)

def m_ST_remove (σ : SC) (x0 : Int32) : Option (Bool × SC) :=
  match m_ST_needPlacement σ x0 with
  | none => none
  | some u_1 =>
    some ((m_ST_settle (m_Sheets_takeAway σ x0)).1, (m_ST_settle (m_Sheets_takeAway σ x0)).2)

def m_ST_move (σ : SC) (x0 : Int32) (x1 : Int32) : Option (Bool × SC) :=
  match m_ST_needPlacement σ x0 with
  | none => none
  | some u_1 =>
    match m_ST_needSheet σ x1 with
    | none => none
    | some u_2 =>
      if (bi (m_Sheets_holds σ (m_Sheets_sheetOf σ x0) x1)) = 0 then
        if (bi ((m_ST_settle ((m_Sheets_bringTo σ x0 x1).2)).1)) = 0 then
          some (false, (m_ST_settle ((m_Sheets_bringTo σ x0 x1).2)).2)
        else
          some (true, (zn ((m_ST_settle ((m_Sheets_bringTo σ x0 x1).2)).2) 3 ((m_Sheets_bringTo σ x0 x1).1)))
      else
        some (false, σ)

def m_ST_port (σ : SC) (x0 : Int32) (x1 : Int32) : Option (Bool × SC) :=
  match m_ST_needSheet σ x0 with
  | none => none
  | some u_1 =>
    match m_ST_needName σ x1 with
    | none => none
    | some u_2 =>
      if (bi (m_Sheets_tells σ x0 x1)) = 0 then
        some (true, (m_Journal_keep (m_Sheets_addName σ x0 x1)))
      else
        some (false, σ)

def m_ST_join (σ : SC) (x0 : Int32) (x1 : Int32) (x2 : Int32) : Option (Bool × SC) :=
  match m_ST_needPlacement σ x0 with
  | none => none
  | some u_1 =>
    match m_ST_needName σ x1 with
    | none => none
    | some u_2 =>
      match m_ST_needName σ x2 with
      | none => none
      | some u_3 =>
        if (bi (m_Sheets_tells σ (m_Sheets_sheetOf σ x0) x1)) = 0 then
          some (false, σ)
        else
          if (bi (m_Sheets_tells σ (m_Sheets_parentOf σ x0) x2)) = 0 then
            some (false, σ)
          else
            if (m_Sheets_jointOf σ x0 x1) = x2 then
              some (false, σ)
            else
              some (true, (m_Journal_keep (m_Sheets_setJoint σ x0 x1 x2)))

def m_ST_joined (σ : SC) (x0 : Int32) (x1 : Int32) : Option (Int32) :=
  match m_ST_needPlacement σ x0 with
  | none => none
  | some u_1 =>
    match m_ST_needName σ x1 with
    | none => none
    | some u_2 =>
      some (m_Sheets_jointOf σ x0 x1)

def m_ST_part (σ : SC) (x0 : Int32) (x1 : Int32) : Option (Int32 × SC) :=
  if x0 < 0 then
    none
  else
    if 26 ≤ x0 then
      none
    else
      if x1 < 1 then
        none
      else
        if x1 ≤ 8 then
          if 1 ≤ (m_Parts_partsLeft σ) then
            some ((m_Parts_addPart σ x0 x1).1, (m_Journal_keep ((m_Parts_addPart σ x0 x1).2)))
          else
            some ((-1), σ)
        else
          none

def m_ST_gate (σ : SC) (x0 : Int32) (x1 : Int32) (x2 : Int32) : Option (Bool × SC) :=
  match m_ST_needSheet σ x0 with
  | none => none
  | some u_1 =>
    match m_ST_needPart σ x1 with
    | none => none
    | some u_2 =>
      match m_ST_needGate σ x1 x2 with
      | none => none
      | some u_3 =>
        if (m_Parts_sheetOfGate σ x1 x2) = (-1) then
          if (m_Parts_gatesOn σ x0) < 20 then
            some (true, (m_Journal_keep (m_Parts_layGate σ x0 x1 x2)))
          else
            some (false, σ)
        else
          some (false, σ)

def m_ST_rule (σ : SC) (x0 : Int32) : Option (Bool × SC) :=
  if x0 = 0 then
    if (m_Row_at σ 18 0) = x0 then
      some (false, σ)
    else
      some (true, (m_Journal_keep (m_Row_set σ 18 0 x0.toInt64)))
  else
    if x0 = 1 then
      if (m_Row_at σ 18 0) = x0 then
        some (false, σ)
      else
        some (true, (m_Journal_keep (m_Row_set σ 18 0 x0.toInt64)))
    else
      none

def m_ST_variant (σ : SC) (x0 : Int32) : Option (Int32 × SC) :=
  match m_ST_needVariantOrNone σ x0 with
  | none => none
  | some u_1 =>
    if (m_Variants_count σ) < 10 then
      some ((m_Variants_addVariant σ x0).1, (m_Journal_keep ((m_Variants_addVariant σ x0).2)))
    else
      some ((-1), σ)

def m_ST_heard (σ : SC) (x0 : Int32) (x1 : Int32) (x2 : Int32) (x3 : Int32) (x4 : Int64) : Option (Int64) :=
  match m_ST_needVariantOrNone σ x1 with
  | none => none
  | some u_1 =>
    match m_ST_needPage σ x2 with
    | none => none
    | some u_2 =>
      match m_ST_needPart σ x3 with
      | none => none
      | some u_3 =>
        if (m_Variants_nearest σ x0 x1 x2 x3) = (-1) then
          some x4
        else
          some (m_Variants_content σ (m_Variants_nearest σ x0 x1 x2 x3))

def m_ST_valueOf (σ : SC) (x0 : Int32) (x1 : Int32) (x2 : Int32) : Option (Int64) :=
  match m_ST_heard σ 0 x0 x1 x2 0 with
  | none => none
  | some u_1 =>
    some (u_1)

def m_ST_fitted (σ : SC) (x0 : Int32) (x1 : Int32) (x2 : Int32) : Option (Bool) :=
  match m_ST_heard σ 1 x0 x1 x2 1 with
  | none => none
  | some u_1 =>
    if (lg_cmp (u_1) 1) = 0 then
      some true
    else
      some false

def m_ST_units (σ : SC) (x0 : Int32) : Option (Int32) :=
  match m_ST_needPart σ x0 with
  | none => none
  | some u_1 =>
    some (m_Parts_unitCount σ x0)

def m_ST_where (σ : SC) (x0 : Int32) (x1 : Int32) (x2 : Int32) : Option (Int32) :=
  match m_ST_needPart σ x0 with
  | none => none
  | some u_1 =>
    match m_ST_needUnit σ x0 x1 with
    | none => none
    | some u_2 =>
      match m_ST_needGate σ x0 x2 with
      | none => none
      | some u_3 =>
        some (m_Book_pageOfComing σ (m_Parts_sheetOfGate σ x0 x2) x1)

def m_ST_name (σ : SC) (x0 : Int32) (x1 : Int32) : Option (Int32 × SC) :=
  match m_ST_needPart σ x0 with
  | none => none
  | some u_1 =>
    match m_ST_needUnit σ x0 x1 with
    | none => none
    | some u_2 =>
      if (m_Row_at σ 18 0) = 1 then
        some ((((m_Parts_letterOf ((m_Parts_numberOf σ x0 x1 true).2) x0) * 10000) + (m_Parts_numberOf σ x0 x1 true).1), (m_Parts_numberOf σ x0 x1 true).2)
      else
        some ((((m_Parts_letterOf ((m_Parts_numberOf σ x0 x1 false).2) x0) * 10000) + (m_Parts_numberOf σ x0 x1 false).1), (m_Parts_numberOf σ x0 x1 false).2)

section SC
variable {l : Launch} {D : va_G} {N0 N1 : Nat} {G : Nat → Nat → Nat} {cI cL cQ : ClassId} {rest : va_W}
set_option maxHeartbeats 400000 in
set_option maxRecDepth 100000 in
theorem c_ST_place (σ : SC) (π : PJ) (hπ : RJ π σ) (x0 : Int32) (x1 : Int32) (RES : Int32 × SC) (hR : m_ST_place σ x0 x1 = some RES) : CM l y_ST_place b_ST_place 4 (some .int) { frames := 6, cells := 4, slots := 16, locals := 132 } D (tyL cI cL cQ) N0 N0 [.ref (G 0 0), .int x0, .int x1] (wsC G cI cL cQ σ π rest) (some (.int RES.1)) (pwC G cI cL cQ RES.2 rest) 4 16 := by
  obtain ⟨RV, RS⟩ := RES
  dsimp only
  refine met_of (own := R_ST) (by decide) rfl nwl_ok ?_
  intro p e s m below meth c hC hin hB
  have hx := hC.1
  have hb := hC.2.1
  have hl := lv_entry ([.ref (G 0 0), .int x0, .int x1]) (n := 4) (Nat.le_of_ble_eq_true rfl)
  rw [lg_entry_eq]
  generalize (lg_sl ([.ref (G 0 0), .int x0, .int x1]) ++ List.replicate (4 - (lg_sl ([.ref (G 0 0), .int x0, .int x1])).length) Slot.unset).toArray = ls at hl ⊢
  have hl : lv_has ls 4 [(0, .ref (G 0 0)), (1, .int x0), (2, .int x1)] := hl
  rw [m_ST_place] at hR
  refine lv_aload_n hx hb d_ST_place_0 rfl (lv_at hl 0 rfl) ?_
  refine lv_iload_n hx hb d_ST_place_1 rfl (lv_at hl 1 rfl) ?_
  obtain ⟨u_1, hq_1⟩ : ∃ z, m_ST_needSheet σ x0 = some z := by
    cases hz : m_ST_needSheet σ x0 with
    | none => rw [hz] at hR; cases hR
    | some z => exact ⟨z, rfl⟩
  rw [hq_1] at hR
  dsimp only at hR
  refine kV hC hB _ lkC_ST rfl (c_ST_needSheet σ π x0 u_1 hq_1) allw_ok mf_ST_needSheet kw_389 ks_5 kw_387 ⟨rfl, rfl, Nat.le_of_ble_eq_true rfl, Nat.le_of_ble_eq_true rfl⟩ rfl rfl hl.1 (Nat.le_of_ble_eq_true rfl) d_ST_place_2 ⟨Nat.le_of_ble_eq_true rfl, Nat.le_of_ble_eq_true rfl⟩ (roK fun H locs hB => ?_)
  refine lv_aload_n hx hb d_ST_place_5 rfl (lv_at hl 0 rfl) ?_
  refine lv_iload_n hx hb d_ST_place_6 rfl (lv_at hl 2 rfl) ?_
  obtain ⟨u_2, hq_2⟩ : ∃ z, m_ST_needSheet σ x1 = some z := by
    cases hz : m_ST_needSheet σ x1 with
    | none => rw [hz] at hR; cases hR
    | some z => exact ⟨z, rfl⟩
  rw [hq_2] at hR
  dsimp only at hR
  refine kV hC hB _ lkC_ST rfl (c_ST_needSheet σ π x1 u_2 hq_2) allw_ok mf_ST_needSheet kw_389 ks_5 kw_387 ⟨rfl, rfl, Nat.le_of_ble_eq_true rfl, Nat.le_of_ble_eq_true rfl⟩ rfl rfl hl.1 (Nat.le_of_ble_eq_true rfl) d_ST_place_7 ⟨Nat.le_of_ble_eq_true rfl, Nat.le_of_ble_eq_true rfl⟩ (roK fun H locs hB => ?_)
  refine lv_aload_n hx hb d_ST_place_10 rfl (lv_at hl 0 rfl) ?_
  refine gt hC hB _ lkC_ST rfl i_ST 1 (by decide) rfl kw_257 rfl d_ST_place_11 ?_
  refine kV hC hB _ lkC_Sheets rfl (c_Sheets_placementsLeft σ π) allw_ok mf_Sheets_placementsLeft kw_463 kw_464 kw_462 ⟨rfl, rfl, Nat.le_of_ble_eq_true rfl, Nat.le_of_ble_eq_true rfl⟩ rfl rfl hl.1 (Nat.le_of_ble_eq_true rfl) d_ST_place_14 ⟨Nat.le_of_ble_eq_true rfl, Nat.le_of_ble_eq_true rfl⟩ (roK fun H locs hB => ?_)
  refine lv_iconst (v := 1) hx hb d_ST_place_17 (by decide) ?_
  refine lv_icmp_lt (tgt := 33) hx hb d_ST_place_18 (by decide) (fun c_3 => ?_) (fun c_3 => ?_)
  · rw [if_pos c_3] at hR
    refine lv_iconst (v := (-1)) hx hb d_ST_place_33 (by decide) ?_
    obtain ⟨rfl, rfl⟩ := Prod.mk.inj (Option.some.inj hR)
    refine W.widen (k := 4) (n := 16) (Nat.le_of_ble_eq_true rfl) (Nat.le_of_ble_eq_true rfl) ?_
    exact ri hC hB ⟨π, hπ, rfl⟩ d_ST_place_34
  · rw [if_neg c_3] at hR
    refine lv_aload_n hx hb d_ST_place_21 rfl (lv_at hl 0 rfl) ?_
    refine gt hC hB _ lkC_ST rfl i_ST 1 (by decide) rfl kw_257 rfl d_ST_place_22 ?_
    refine lv_iload_n hx hb d_ST_place_25 rfl (lv_at hl 2 rfl) ?_
    refine lv_iload_n hx hb d_ST_place_26 rfl (lv_at hl 1 rfl) ?_
    refine kV hC hB _ lkC_Sheets rfl (c_Sheets_holds σ π x1 x0) allw_ok mf_Sheets_holds kw_467 kw_468 kw_466 ⟨rfl, rfl, Nat.le_of_ble_eq_true rfl, Nat.le_of_ble_eq_true rfl⟩ rfl rfl hl.1 (Nat.le_of_ble_eq_true rfl) d_ST_place_27 ⟨Nat.le_of_ble_eq_true rfl, Nat.le_of_ble_eq_true rfl⟩ (roK fun H locs hB => ?_)
    refine lv_if_eq (tgt := 35) hx hb d_ST_place_30 (by decide) (fun c_4 => ?_) (fun c_4 => ?_)
    · rw [if_pos c_4] at hR
      refine lv_aload_n hx hb d_ST_place_35 rfl (lv_at hl 0 rfl) ?_
      refine gt hC hB _ lkC_ST rfl i_ST 1 (by decide) rfl kw_257 rfl d_ST_place_36 ?_
      refine lv_iload_n hx hb d_ST_place_39 rfl (lv_at hl 1 rfl) ?_
      refine lv_iload_n hx hb d_ST_place_40 rfl (lv_at hl 2 rfl) ?_
      refine kV hC hB _ lkC_Sheets rfl (c_Sheets_addPlacement σ π hπ x0 x1) allw_ok mf_Sheets_addPlacement kw_484 kw_485 kw_483 ⟨rfl, rfl, Nat.le_of_ble_eq_true rfl, Nat.le_of_ble_eq_true rfl⟩ rfl rfl hl.1 (Nat.le_of_ble_eq_true rfl) d_ST_place_41 ⟨Nat.le_of_ble_eq_true rfl, Nat.le_of_ble_eq_true rfl⟩ (fun H locs w hw hB => ?_)
      obtain ⟨π, hπ, rfl⟩ := hw
      refine lv_istore_n (lv' := [(3, .int ((m_Sheets_addPlacement σ x0 x1).1)), (0, .ref (G 0 0)), (1, .int x0), (2, .int x1)]) hx hb d_ST_place_44 rfl hl (by decide) rfl (fun ls hl => ?_)
      refine lv_aload_n hx hb d_ST_place_45 rfl (lv_at hl 1 rfl) ?_
      refine kV hC hB _ lkC_ST rfl (c_ST_settle ((m_Sheets_addPlacement σ x0 x1).2) π hπ) allw_ok mf_ST_settle kw_497 ks_10 kw_495 ⟨rfl, rfl, Nat.le_of_ble_eq_true rfl, Nat.le_of_ble_eq_true rfl⟩ rfl rfl hl.1 (Nat.le_of_ble_eq_true rfl) d_ST_place_46 ⟨Nat.le_of_ble_eq_true rfl, Nat.le_of_ble_eq_true rfl⟩ (fun H locs w hw hB => ?_)
      obtain ⟨π, hπ, rfl⟩ := hw
      refine lv_if_eq (tgt := 56) hx hb d_ST_place_49 (by decide) (fun c_5 => ?_) (fun c_5 => ?_)
      · rw [if_pos c_5] at hR
        refine lv_iconst (v := (-1)) hx hb d_ST_place_56 (by decide) ?_
        obtain ⟨rfl, rfl⟩ := Prod.mk.inj (Option.some.inj hR)
        refine W.widen (k := 4) (n := 16) (Nat.le_of_ble_eq_true rfl) (Nat.le_of_ble_eq_true rfl) ?_
        exact ri hC hB ⟨π, hπ, rfl⟩ d_ST_place_57
      · rw [if_neg c_5] at hR
        refine lv_iload_n hx hb d_ST_place_52 rfl (lv_at hl 0 rfl) ?_
        refine lv_goto (tgt := 57) hx hb d_ST_place_53 (by decide) ?_
        obtain ⟨rfl, rfl⟩ := Prod.mk.inj (Option.some.inj hR)
        refine W.widen (k := 4) (n := 16) (Nat.le_of_ble_eq_true rfl) (Nat.le_of_ble_eq_true rfl) ?_
        exact ri hC hB ⟨π, hπ, rfl⟩ d_ST_place_57
    · rw [if_neg c_4] at hR
      refine lv_iconst (v := (-1)) hx hb d_ST_place_33 (by decide) ?_
      obtain ⟨rfl, rfl⟩ := Prod.mk.inj (Option.some.inj hR)
      refine W.widen (k := 4) (n := 16) (Nat.le_of_ble_eq_true rfl) (Nat.le_of_ble_eq_true rfl) ?_
      exact ri hC hB ⟨π, hπ, rfl⟩ d_ST_place_34

set_option maxHeartbeats 400000 in
set_option maxRecDepth 100000 in
theorem x_ST_place (htl : l.stackTraces = false) (σ : SC) (π : PJ) (x0 : Int32) (x1 : Int32) (hR : m_ST_place σ x0 x1 = none) : MX l y_ST_place b_ST_place 4 (some .int) { frames := 7, cells := 1, slots := 6, locals := 132 } D classes (tyL cI cL cQ) NWL ALLW N0 N1 [.ref (G 0 0), .int x0, .int x1] (wsC G cI cL cQ σ π rest) "java/lang/IndexOutOfBoundsException" 1 6 := by
  refine mx_of (own := R_ST) (by decide) rfl nwl_ok ?_
  intro p e s m below meth c hC hex hSW hB
  have hB0 := hB
  have hx := hC.1
  have hb := hC.2.1
  have hl := lv_entry ([.ref (G 0 0), .int x0, .int x1]) (n := 4) (Nat.le_of_ble_eq_true rfl)
  rw [lg_entry_eq]
  generalize (lg_sl ([.ref (G 0 0), .int x0, .int x1]) ++ List.replicate (4 - (lg_sl ([.ref (G 0 0), .int x0, .int x1])).length) Slot.unset).toArray = ls at hl ⊢
  have hl : lv_has ls 4 [(0, .ref (G 0 0)), (1, .int x0), (2, .int x1)] := hl
  rw [m_ST_place] at hR
  refine lv_aload_n hx hb d_ST_place_0 rfl (lv_at hl 0 rfl) ?_
  refine lv_iload_n hx hb d_ST_place_1 rfl (lv_at hl 1 rfl) ?_
  rcases hq_1 : m_ST_needSheet σ x0 with _ | u_1
  · refine kx hC hSW hB _ lkC_ST rfl (x_ST_needSheet htl σ π x0 hq_1) allw_ok mf_ST_needSheet kw_389 ks_5 kw_387 ⟨rfl, rfl, Nat.le_of_ble_eq_true rfl, Nat.le_of_ble_eq_true rfl⟩ rfl rfl hl.1 (Nat.le_of_ble_eq_true rfl) d_ST_place_2 ⟨Nat.le_of_ble_eq_true rfl, Nat.le_of_ble_eq_true rfl⟩ (fun q ce H locs hB h1 h2 h3 => ?_)
    exact tx_out hC hB (by rw [hex]; intro x hx; cases hx) h1 h2 h3 (Nat.le_of_ble_eq_true rfl) (Nat.le_of_ble_eq_true rfl)
  rw [hq_1] at hR
  dsimp only at hR
  refine kV hC hB _ lkC_ST rfl (c_ST_needSheet σ π x0 u_1 hq_1) allw_ok mf_ST_needSheet kw_389 ks_5 kw_387 ⟨rfl, rfl, Nat.le_of_ble_eq_true rfl, Nat.le_of_ble_eq_true rfl⟩ rfl rfl hl.1 (Nat.le_of_ble_eq_true rfl) d_ST_place_2 ⟨Nat.le_of_ble_eq_true rfl, Nat.le_of_ble_eq_true rfl⟩ (roK fun H locs hB => ?_)
  refine lv_aload_n hx hb d_ST_place_5 rfl (lv_at hl 0 rfl) ?_
  refine lv_iload_n hx hb d_ST_place_6 rfl (lv_at hl 2 rfl) ?_
  rcases hq_2 : m_ST_needSheet σ x1 with _ | u_2
  · refine kx hC hSW hB _ lkC_ST rfl (x_ST_needSheet htl σ π x1 hq_2) allw_ok mf_ST_needSheet kw_389 ks_5 kw_387 ⟨rfl, rfl, Nat.le_of_ble_eq_true rfl, Nat.le_of_ble_eq_true rfl⟩ rfl rfl hl.1 (Nat.le_of_ble_eq_true rfl) d_ST_place_7 ⟨Nat.le_of_ble_eq_true rfl, Nat.le_of_ble_eq_true rfl⟩ (fun q ce H locs hB h1 h2 h3 => ?_)
    exact tx_out hC hB (by rw [hex]; intro x hx; cases hx) h1 h2 h3 (Nat.le_of_ble_eq_true rfl) (Nat.le_of_ble_eq_true rfl)
  rw [hq_2] at hR
  dsimp only at hR
  refine kV hC hB _ lkC_ST rfl (c_ST_needSheet σ π x1 u_2 hq_2) allw_ok mf_ST_needSheet kw_389 ks_5 kw_387 ⟨rfl, rfl, Nat.le_of_ble_eq_true rfl, Nat.le_of_ble_eq_true rfl⟩ rfl rfl hl.1 (Nat.le_of_ble_eq_true rfl) d_ST_place_7 ⟨Nat.le_of_ble_eq_true rfl, Nat.le_of_ble_eq_true rfl⟩ (roK fun H locs hB => ?_)
  refine lv_aload_n hx hb d_ST_place_10 rfl (lv_at hl 0 rfl) ?_
  refine gt hC hB _ lkC_ST rfl i_ST 1 (by decide) rfl kw_257 rfl d_ST_place_11 ?_
  refine kV hC hB _ lkC_Sheets rfl (c_Sheets_placementsLeft σ π) allw_ok mf_Sheets_placementsLeft kw_463 kw_464 kw_462 ⟨rfl, rfl, Nat.le_of_ble_eq_true rfl, Nat.le_of_ble_eq_true rfl⟩ rfl rfl hl.1 (Nat.le_of_ble_eq_true rfl) d_ST_place_14 ⟨Nat.le_of_ble_eq_true rfl, Nat.le_of_ble_eq_true rfl⟩ (roK fun H locs hB => ?_)
  refine lv_iconst (v := 1) hx hb d_ST_place_17 (by decide) ?_
  refine lv_icmp_lt (tgt := 33) hx hb d_ST_place_18 (by decide) (fun c_3 => ?_) (fun c_3 => ?_)
  · rw [if_pos c_3] at hR
    refine lv_iconst (v := (-1)) hx hb d_ST_place_33 (by decide) ?_
    cases hR
  · rw [if_neg c_3] at hR
    refine lv_aload_n hx hb d_ST_place_21 rfl (lv_at hl 0 rfl) ?_
    refine gt hC hB _ lkC_ST rfl i_ST 1 (by decide) rfl kw_257 rfl d_ST_place_22 ?_
    refine lv_iload_n hx hb d_ST_place_25 rfl (lv_at hl 2 rfl) ?_
    refine lv_iload_n hx hb d_ST_place_26 rfl (lv_at hl 1 rfl) ?_
    refine kV hC hB _ lkC_Sheets rfl (c_Sheets_holds σ π x1 x0) allw_ok mf_Sheets_holds kw_467 kw_468 kw_466 ⟨rfl, rfl, Nat.le_of_ble_eq_true rfl, Nat.le_of_ble_eq_true rfl⟩ rfl rfl hl.1 (Nat.le_of_ble_eq_true rfl) d_ST_place_27 ⟨Nat.le_of_ble_eq_true rfl, Nat.le_of_ble_eq_true rfl⟩ (roK fun H locs hB => ?_)
    refine lv_if_eq (tgt := 35) hx hb d_ST_place_30 (by decide) (fun c_4 => ?_) (fun c_4 => ?_)
    · rw [if_pos c_4] at hR
      refine lv_aload_n hx hb d_ST_place_35 rfl (lv_at hl 0 rfl) ?_
      refine gt hC hB _ lkC_ST rfl i_ST 1 (by decide) rfl kw_257 rfl d_ST_place_36 ?_
      refine lv_iload_n hx hb d_ST_place_39 rfl (lv_at hl 1 rfl) ?_
      refine lv_iload_n hx hb d_ST_place_40 rfl (lv_at hl 2 rfl) ?_
      refine absurd hR ?_
      repeat' (first | with_reducible exact nn_some _ | with_reducible refine nn_ite ?_ ?_)
    · rw [if_neg c_4] at hR
      refine lv_iconst (v := (-1)) hx hb d_ST_place_33 (by decide) ?_
      cases hR

set_option maxHeartbeats 400000 in
set_option maxRecDepth 100000 in
theorem c_ST_remove (σ : SC) (π : PJ) (hπ : RJ π σ) (x0 : Int32) (RES : Bool × SC) (hR : m_ST_remove σ x0 = some RES) : CM l y_ST_remove b_ST_remove 2 (some .boolean) { frames := 6, cells := 3, slots := 12, locals := 129 } D (tyL cI cL cQ) N0 N0 [.ref (G 0 0), .int x0] (wsC G cI cL cQ σ π rest) (some (.int (bi RES.1))) (pwC G cI cL cQ RES.2 rest) 3 12 := by
  obtain ⟨RV, RS⟩ := RES
  dsimp only
  refine met_of (own := R_ST) (by decide) rfl nwl_ok ?_
  intro p e s m below meth c hC hin hB
  have hx := hC.1
  have hb := hC.2.1
  have hl := lv_entry ([.ref (G 0 0), .int x0]) (n := 2) (Nat.le_of_ble_eq_true rfl)
  rw [lg_entry_eq]
  generalize (lg_sl ([.ref (G 0 0), .int x0]) ++ List.replicate (2 - (lg_sl ([.ref (G 0 0), .int x0])).length) Slot.unset).toArray = ls at hl ⊢
  have hl : lv_has ls 2 [(0, .ref (G 0 0)), (1, .int x0)] := hl
  rw [m_ST_remove] at hR
  refine lv_aload_n hx hb d_ST_remove_0 rfl (lv_at hl 0 rfl) ?_
  refine lv_iload_n hx hb d_ST_remove_1 rfl (lv_at hl 1 rfl) ?_
  obtain ⟨u_1, hq_1⟩ : ∃ z, m_ST_needPlacement σ x0 = some z := by
    cases hz : m_ST_needPlacement σ x0 with
    | none => rw [hz] at hR; cases hR
    | some z => exact ⟨z, rfl⟩
  rw [hq_1] at hR
  dsimp only at hR
  refine kV hC hB _ lkC_ST rfl (c_ST_needPlacement σ π x0 u_1 hq_1) allw_ok mf_ST_needPlacement kw_513 ks_11 kw_511 ⟨rfl, rfl, Nat.le_of_ble_eq_true rfl, Nat.le_of_ble_eq_true rfl⟩ rfl rfl hl.1 (Nat.le_of_ble_eq_true rfl) d_ST_remove_2 ⟨Nat.le_of_ble_eq_true rfl, Nat.le_of_ble_eq_true rfl⟩ (roK fun H locs hB => ?_)
  refine lv_aload_n hx hb d_ST_remove_5 rfl (lv_at hl 0 rfl) ?_
  refine gt hC hB _ lkC_ST rfl i_ST 1 (by decide) rfl kw_257 rfl d_ST_remove_6 ?_
  refine lv_iload_n hx hb d_ST_remove_9 rfl (lv_at hl 1 rfl) ?_
  refine kV hC hB _ lkC_Sheets rfl (c_Sheets_takeAway σ π hπ x0) allw_ok mf_Sheets_takeAway kw_518 kw_519 kw_517 ⟨rfl, rfl, Nat.le_of_ble_eq_true rfl, Nat.le_of_ble_eq_true rfl⟩ rfl rfl hl.1 (Nat.le_of_ble_eq_true rfl) d_ST_remove_10 ⟨Nat.le_of_ble_eq_true rfl, Nat.le_of_ble_eq_true rfl⟩ (fun H locs w hw hB => ?_)
  obtain ⟨π, hπ, rfl⟩ := hw
  refine lv_aload_n hx hb d_ST_remove_13 rfl (lv_at hl 0 rfl) ?_
  refine kV hC hB _ lkC_ST rfl (c_ST_settle (m_Sheets_takeAway σ x0) π hπ) allw_ok mf_ST_settle kw_497 ks_10 kw_495 ⟨rfl, rfl, Nat.le_of_ble_eq_true rfl, Nat.le_of_ble_eq_true rfl⟩ rfl rfl hl.1 (Nat.le_of_ble_eq_true rfl) d_ST_remove_14 ⟨Nat.le_of_ble_eq_true rfl, Nat.le_of_ble_eq_true rfl⟩ (fun H locs w hw hB => ?_)
  obtain ⟨π, hπ, rfl⟩ := hw
  obtain ⟨rfl, rfl⟩ := Prod.mk.inj (Option.some.inj hR)
  refine W.widen (k := 3) (n := 12) (Nat.le_of_ble_eq_true rfl) (Nat.le_of_ble_eq_true rfl) ?_
  exact rz (b := (m_ST_settle (m_Sheets_takeAway σ x0)).1) hC hB ⟨π, hπ, rfl⟩ d_ST_remove_17

set_option maxHeartbeats 400000 in
set_option maxRecDepth 100000 in
theorem x_ST_remove (htl : l.stackTraces = false) (σ : SC) (π : PJ) (x0 : Int32) (hR : m_ST_remove σ x0 = none) : MX l y_ST_remove b_ST_remove 2 (some .boolean) { frames := 7, cells := 1, slots := 6, locals := 129 } D classes (tyL cI cL cQ) NWL ALLW N0 N1 [.ref (G 0 0), .int x0] (wsC G cI cL cQ σ π rest) "java/lang/IndexOutOfBoundsException" 1 6 := by
  refine mx_of (own := R_ST) (by decide) rfl nwl_ok ?_
  intro p e s m below meth c hC hex hSW hB
  have hB0 := hB
  have hx := hC.1
  have hb := hC.2.1
  have hl := lv_entry ([.ref (G 0 0), .int x0]) (n := 2) (Nat.le_of_ble_eq_true rfl)
  rw [lg_entry_eq]
  generalize (lg_sl ([.ref (G 0 0), .int x0]) ++ List.replicate (2 - (lg_sl ([.ref (G 0 0), .int x0])).length) Slot.unset).toArray = ls at hl ⊢
  have hl : lv_has ls 2 [(0, .ref (G 0 0)), (1, .int x0)] := hl
  rw [m_ST_remove] at hR
  refine lv_aload_n hx hb d_ST_remove_0 rfl (lv_at hl 0 rfl) ?_
  refine lv_iload_n hx hb d_ST_remove_1 rfl (lv_at hl 1 rfl) ?_
  rcases hq_1 : m_ST_needPlacement σ x0 with _ | u_1
  · refine kx hC hSW hB _ lkC_ST rfl (x_ST_needPlacement htl σ π x0 hq_1) allw_ok mf_ST_needPlacement kw_513 ks_11 kw_511 ⟨rfl, rfl, Nat.le_of_ble_eq_true rfl, Nat.le_of_ble_eq_true rfl⟩ rfl rfl hl.1 (Nat.le_of_ble_eq_true rfl) d_ST_remove_2 ⟨Nat.le_of_ble_eq_true rfl, Nat.le_of_ble_eq_true rfl⟩ (fun q ce H locs hB h1 h2 h3 => ?_)
    exact tx_out hC hB (by rw [hex]; intro x hx; cases hx) h1 h2 h3 (Nat.le_of_ble_eq_true rfl) (Nat.le_of_ble_eq_true rfl)
  rw [hq_1] at hR
  dsimp only at hR
  refine kV hC hB _ lkC_ST rfl (c_ST_needPlacement σ π x0 u_1 hq_1) allw_ok mf_ST_needPlacement kw_513 ks_11 kw_511 ⟨rfl, rfl, Nat.le_of_ble_eq_true rfl, Nat.le_of_ble_eq_true rfl⟩ rfl rfl hl.1 (Nat.le_of_ble_eq_true rfl) d_ST_remove_2 ⟨Nat.le_of_ble_eq_true rfl, Nat.le_of_ble_eq_true rfl⟩ (roK fun H locs hB => ?_)
  refine lv_aload_n hx hb d_ST_remove_5 rfl (lv_at hl 0 rfl) ?_
  refine gt hC hB _ lkC_ST rfl i_ST 1 (by decide) rfl kw_257 rfl d_ST_remove_6 ?_
  refine lv_iload_n hx hb d_ST_remove_9 rfl (lv_at hl 1 rfl) ?_
  refine absurd hR ?_
  repeat' (first | with_reducible exact nn_some _ | with_reducible refine nn_ite ?_ ?_)

set_option maxHeartbeats 400000 in
set_option maxRecDepth 100000 in
theorem c_ST_move (σ : SC) (π : PJ) (hπ : RJ π σ) (x0 : Int32) (x1 : Int32) (RES : Bool × SC) (hR : m_ST_move σ x0 x1 = some RES) : CM l y_ST_move b_ST_move 4 (some .boolean) { frames := 6, cells := 37, slots := 148, locals := 135 } D (tyL cI cL cQ) N0 N0 [.ref (G 0 0), .int x0, .int x1] (wsC G cI cL cQ σ π rest) (some (.int (bi RES.1))) (pwC G cI cL cQ RES.2 rest) 37 148 := by
  obtain ⟨RV, RS⟩ := RES
  dsimp only
  refine met_of (own := R_ST) (by decide) rfl nwl_ok ?_
  intro p e s m below meth c hC hin hB
  have hx := hC.1
  have hb := hC.2.1
  have hl := lv_entry ([.ref (G 0 0), .int x0, .int x1]) (n := 4) (Nat.le_of_ble_eq_true rfl)
  rw [lg_entry_eq]
  generalize (lg_sl ([.ref (G 0 0), .int x0, .int x1]) ++ List.replicate (4 - (lg_sl ([.ref (G 0 0), .int x0, .int x1])).length) Slot.unset).toArray = ls at hl ⊢
  have hl : lv_has ls 4 [(0, .ref (G 0 0)), (1, .int x0), (2, .int x1)] := hl
  rw [m_ST_move] at hR
  refine lv_aload_n hx hb d_ST_move_0 rfl (lv_at hl 0 rfl) ?_
  refine lv_iload_n hx hb d_ST_move_1 rfl (lv_at hl 1 rfl) ?_
  obtain ⟨u_1, hq_1⟩ : ∃ z, m_ST_needPlacement σ x0 = some z := by
    cases hz : m_ST_needPlacement σ x0 with
    | none => rw [hz] at hR; cases hR
    | some z => exact ⟨z, rfl⟩
  rw [hq_1] at hR
  dsimp only at hR
  refine kV hC hB _ lkC_ST rfl (c_ST_needPlacement σ π x0 u_1 hq_1) allw_ok mf_ST_needPlacement kw_513 ks_11 kw_511 ⟨rfl, rfl, Nat.le_of_ble_eq_true rfl, Nat.le_of_ble_eq_true rfl⟩ rfl rfl hl.1 (Nat.le_of_ble_eq_true rfl) d_ST_move_2 ⟨Nat.le_of_ble_eq_true rfl, Nat.le_of_ble_eq_true rfl⟩ (roK fun H locs hB => ?_)
  refine lv_aload_n hx hb d_ST_move_5 rfl (lv_at hl 0 rfl) ?_
  refine lv_iload_n hx hb d_ST_move_6 rfl (lv_at hl 2 rfl) ?_
  obtain ⟨u_2, hq_2⟩ : ∃ z, m_ST_needSheet σ x1 = some z := by
    cases hz : m_ST_needSheet σ x1 with
    | none => rw [hz] at hR; cases hR
    | some z => exact ⟨z, rfl⟩
  rw [hq_2] at hR
  dsimp only at hR
  refine kV hC hB _ lkC_ST rfl (c_ST_needSheet σ π x1 u_2 hq_2) allw_ok mf_ST_needSheet kw_389 ks_5 kw_387 ⟨rfl, rfl, Nat.le_of_ble_eq_true rfl, Nat.le_of_ble_eq_true rfl⟩ rfl rfl hl.1 (Nat.le_of_ble_eq_true rfl) d_ST_move_7 ⟨Nat.le_of_ble_eq_true rfl, Nat.le_of_ble_eq_true rfl⟩ (roK fun H locs hB => ?_)
  refine lv_aload_n hx hb d_ST_move_10 rfl (lv_at hl 0 rfl) ?_
  refine gt hC hB _ lkC_ST rfl i_ST 1 (by decide) rfl kw_257 rfl d_ST_move_11 ?_
  refine lv_aload_n hx hb d_ST_move_14 rfl (lv_at hl 0 rfl) ?_
  refine gt hC hB _ lkC_ST rfl i_ST 1 (by decide) rfl kw_257 rfl d_ST_move_15 ?_
  refine lv_iload_n hx hb d_ST_move_18 rfl (lv_at hl 1 rfl) ?_
  refine kV hC hB _ lkC_Sheets rfl (c_Sheets_sheetOf σ π x0) allw_ok mf_Sheets_sheetOf kw_249 kw_250 kw_533 ⟨rfl, rfl, Nat.le_of_ble_eq_true rfl, Nat.le_of_ble_eq_true rfl⟩ rfl rfl hl.1 (Nat.le_of_ble_eq_true rfl) d_ST_move_19 ⟨Nat.le_of_ble_eq_true rfl, Nat.le_of_ble_eq_true rfl⟩ (roK fun H locs hB => ?_)
  refine lv_iload_n hx hb d_ST_move_22 rfl (lv_at hl 2 rfl) ?_
  refine kV hC hB _ lkC_Sheets rfl (c_Sheets_holds σ π (m_Sheets_sheetOf σ x0) x1) allw_ok mf_Sheets_holds kw_467 kw_468 kw_466 ⟨rfl, rfl, Nat.le_of_ble_eq_true rfl, Nat.le_of_ble_eq_true rfl⟩ rfl rfl hl.1 (Nat.le_of_ble_eq_true rfl) d_ST_move_23 ⟨Nat.le_of_ble_eq_true rfl, Nat.le_of_ble_eq_true rfl⟩ (roK fun H locs hB => ?_)
  refine lv_if_eq (tgt := 31) hx hb d_ST_move_26 (by decide) (fun c_3 => ?_) (fun c_3 => ?_)
  · rw [if_pos c_3] at hR
    refine lv_aload_n hx hb d_ST_move_31 rfl (lv_at hl 0 rfl) ?_
    refine gt hC hB _ lkC_ST rfl i_ST 1 (by decide) rfl kw_257 rfl d_ST_move_32 ?_
    refine lv_iload_n hx hb d_ST_move_35 rfl (lv_at hl 1 rfl) ?_
    refine lv_iload_n hx hb d_ST_move_36 rfl (lv_at hl 2 rfl) ?_
    refine kV hC hB _ lkC_Sheets rfl (c_Sheets_bringTo σ π hπ x0 x1) allw_ok mf_Sheets_bringTo kw_535 kw_536 kw_534 ⟨rfl, rfl, Nat.le_of_ble_eq_true rfl, Nat.le_of_ble_eq_true rfl⟩ rfl rfl hl.1 (Nat.le_of_ble_eq_true rfl) d_ST_move_37 ⟨Nat.le_of_ble_eq_true rfl, Nat.le_of_ble_eq_true rfl⟩ (fun H locs w hw hB => ?_)
    obtain ⟨π, hπ, rfl⟩ := hw
    refine lv_istore_n (lv' := [(3, .int ((m_Sheets_bringTo σ x0 x1).1)), (0, .ref (G 0 0)), (1, .int x0), (2, .int x1)]) hx hb d_ST_move_40 rfl hl (by decide) rfl (fun ls hl => ?_)
    refine lv_aload_n hx hb d_ST_move_41 rfl (lv_at hl 1 rfl) ?_
    refine kV hC hB _ lkC_ST rfl (c_ST_settle ((m_Sheets_bringTo σ x0 x1).2) π hπ) allw_ok mf_ST_settle kw_497 ks_10 kw_495 ⟨rfl, rfl, Nat.le_of_ble_eq_true rfl, Nat.le_of_ble_eq_true rfl⟩ rfl rfl hl.1 (Nat.le_of_ble_eq_true rfl) d_ST_move_42 ⟨Nat.le_of_ble_eq_true rfl, Nat.le_of_ble_eq_true rfl⟩ (fun H locs w hw hB => ?_)
    obtain ⟨π, hπ, rfl⟩ := hw
    refine lv_if_ne (tgt := 50) hx hb d_ST_move_45 (by decide) (fun c_4 => ?_) (fun c_4 => ?_)
    · rw [if_neg c_4] at hR
      refine lv_aload_n hx hb d_ST_move_50 rfl (lv_at hl 1 rfl) ?_
      refine lv_iload_n hx hb d_ST_move_51 rfl (lv_at hl 0 rfl) ?_
      refine pt (ty := .int) rfl hC hB _ lkC_ST rfl i_ST t_ST t_ST_ok n_ST 6 (by decide) rfl rfl kw_262 (by decide +kernel) rfl rfl (Nat.le_of_ble_eq_true rfl) d_ST_move_52 (ws' := wsC G cI cL cQ (zn ((m_ST_settle ((m_Sheets_bringTo σ x0 x1).2)).2) 3 ((m_Sheets_bringTo σ x0 x1).1)) π rest) setC_n3 (fun H locs hB => ?_)
      have hπ : RJ π (zn ((m_ST_settle ((m_Sheets_bringTo σ x0 x1).2)).2) 3 ((m_Sheets_bringTo σ x0 x1).1)) := rj_zn hπ _ _
      refine lv_iconst (v := 1) hx hb d_ST_move_55 (by decide) ?_
      obtain ⟨rfl, rfl⟩ := Prod.mk.inj (Option.some.inj hR)
      refine W.widen (k := 37) (n := 148) (Nat.le_of_ble_eq_true rfl) (Nat.le_of_ble_eq_true rfl) ?_
      exact rz (b := true) hC hB ⟨π, hπ, rfl⟩ d_ST_move_56
    · rw [if_pos c_4] at hR
      refine lv_iconst (v := 0) hx hb d_ST_move_48 (by decide) ?_
      obtain ⟨rfl, rfl⟩ := Prod.mk.inj (Option.some.inj hR)
      refine W.widen (k := 37) (n := 148) (Nat.le_of_ble_eq_true rfl) (Nat.le_of_ble_eq_true rfl) ?_
      exact rz (b := false) hC hB ⟨π, hπ, rfl⟩ d_ST_move_49
  · rw [if_neg c_3] at hR
    refine lv_iconst (v := 0) hx hb d_ST_move_29 (by decide) ?_
    obtain ⟨rfl, rfl⟩ := Prod.mk.inj (Option.some.inj hR)
    refine W.widen (k := 37) (n := 148) (Nat.le_of_ble_eq_true rfl) (Nat.le_of_ble_eq_true rfl) ?_
    exact rz (b := false) hC hB ⟨π, hπ, rfl⟩ d_ST_move_30

set_option maxHeartbeats 400000 in
set_option maxRecDepth 100000 in
theorem x_ST_move (htl : l.stackTraces = false) (σ : SC) (π : PJ) (x0 : Int32) (x1 : Int32) (hR : m_ST_move σ x0 x1 = none) : MX l y_ST_move b_ST_move 4 (some .boolean) { frames := 7, cells := 1, slots := 6, locals := 135 } D classes (tyL cI cL cQ) NWL ALLW N0 N1 [.ref (G 0 0), .int x0, .int x1] (wsC G cI cL cQ σ π rest) "java/lang/IndexOutOfBoundsException" 1 6 := by
  refine mx_of (own := R_ST) (by decide) rfl nwl_ok ?_
  intro p e s m below meth c hC hex hSW hB
  have hB0 := hB
  have hx := hC.1
  have hb := hC.2.1
  have hl := lv_entry ([.ref (G 0 0), .int x0, .int x1]) (n := 4) (Nat.le_of_ble_eq_true rfl)
  rw [lg_entry_eq]
  generalize (lg_sl ([.ref (G 0 0), .int x0, .int x1]) ++ List.replicate (4 - (lg_sl ([.ref (G 0 0), .int x0, .int x1])).length) Slot.unset).toArray = ls at hl ⊢
  have hl : lv_has ls 4 [(0, .ref (G 0 0)), (1, .int x0), (2, .int x1)] := hl
  rw [m_ST_move] at hR
  refine lv_aload_n hx hb d_ST_move_0 rfl (lv_at hl 0 rfl) ?_
  refine lv_iload_n hx hb d_ST_move_1 rfl (lv_at hl 1 rfl) ?_
  rcases hq_1 : m_ST_needPlacement σ x0 with _ | u_1
  · refine kx hC hSW hB _ lkC_ST rfl (x_ST_needPlacement htl σ π x0 hq_1) allw_ok mf_ST_needPlacement kw_513 ks_11 kw_511 ⟨rfl, rfl, Nat.le_of_ble_eq_true rfl, Nat.le_of_ble_eq_true rfl⟩ rfl rfl hl.1 (Nat.le_of_ble_eq_true rfl) d_ST_move_2 ⟨Nat.le_of_ble_eq_true rfl, Nat.le_of_ble_eq_true rfl⟩ (fun q ce H locs hB h1 h2 h3 => ?_)
    exact tx_out hC hB (by rw [hex]; intro x hx; cases hx) h1 h2 h3 (Nat.le_of_ble_eq_true rfl) (Nat.le_of_ble_eq_true rfl)
  rw [hq_1] at hR
  dsimp only at hR
  refine kV hC hB _ lkC_ST rfl (c_ST_needPlacement σ π x0 u_1 hq_1) allw_ok mf_ST_needPlacement kw_513 ks_11 kw_511 ⟨rfl, rfl, Nat.le_of_ble_eq_true rfl, Nat.le_of_ble_eq_true rfl⟩ rfl rfl hl.1 (Nat.le_of_ble_eq_true rfl) d_ST_move_2 ⟨Nat.le_of_ble_eq_true rfl, Nat.le_of_ble_eq_true rfl⟩ (roK fun H locs hB => ?_)
  refine lv_aload_n hx hb d_ST_move_5 rfl (lv_at hl 0 rfl) ?_
  refine lv_iload_n hx hb d_ST_move_6 rfl (lv_at hl 2 rfl) ?_
  rcases hq_2 : m_ST_needSheet σ x1 with _ | u_2
  · refine kx hC hSW hB _ lkC_ST rfl (x_ST_needSheet htl σ π x1 hq_2) allw_ok mf_ST_needSheet kw_389 ks_5 kw_387 ⟨rfl, rfl, Nat.le_of_ble_eq_true rfl, Nat.le_of_ble_eq_true rfl⟩ rfl rfl hl.1 (Nat.le_of_ble_eq_true rfl) d_ST_move_7 ⟨Nat.le_of_ble_eq_true rfl, Nat.le_of_ble_eq_true rfl⟩ (fun q ce H locs hB h1 h2 h3 => ?_)
    exact tx_out hC hB (by rw [hex]; intro x hx; cases hx) h1 h2 h3 (Nat.le_of_ble_eq_true rfl) (Nat.le_of_ble_eq_true rfl)
  rw [hq_2] at hR
  dsimp only at hR
  refine kV hC hB _ lkC_ST rfl (c_ST_needSheet σ π x1 u_2 hq_2) allw_ok mf_ST_needSheet kw_389 ks_5 kw_387 ⟨rfl, rfl, Nat.le_of_ble_eq_true rfl, Nat.le_of_ble_eq_true rfl⟩ rfl rfl hl.1 (Nat.le_of_ble_eq_true rfl) d_ST_move_7 ⟨Nat.le_of_ble_eq_true rfl, Nat.le_of_ble_eq_true rfl⟩ (roK fun H locs hB => ?_)
  refine lv_aload_n hx hb d_ST_move_10 rfl (lv_at hl 0 rfl) ?_
  refine gt hC hB _ lkC_ST rfl i_ST 1 (by decide) rfl kw_257 rfl d_ST_move_11 ?_
  refine lv_aload_n hx hb d_ST_move_14 rfl (lv_at hl 0 rfl) ?_
  refine gt hC hB _ lkC_ST rfl i_ST 1 (by decide) rfl kw_257 rfl d_ST_move_15 ?_
  refine lv_iload_n hx hb d_ST_move_18 rfl (lv_at hl 1 rfl) ?_
  refine kV hC hB _ lkC_Sheets rfl (c_Sheets_sheetOf σ π x0) allw_ok mf_Sheets_sheetOf kw_249 kw_250 kw_533 ⟨rfl, rfl, Nat.le_of_ble_eq_true rfl, Nat.le_of_ble_eq_true rfl⟩ rfl rfl hl.1 (Nat.le_of_ble_eq_true rfl) d_ST_move_19 ⟨Nat.le_of_ble_eq_true rfl, Nat.le_of_ble_eq_true rfl⟩ (roK fun H locs hB => ?_)
  refine lv_iload_n hx hb d_ST_move_22 rfl (lv_at hl 2 rfl) ?_
  refine kV hC hB _ lkC_Sheets rfl (c_Sheets_holds σ π (m_Sheets_sheetOf σ x0) x1) allw_ok mf_Sheets_holds kw_467 kw_468 kw_466 ⟨rfl, rfl, Nat.le_of_ble_eq_true rfl, Nat.le_of_ble_eq_true rfl⟩ rfl rfl hl.1 (Nat.le_of_ble_eq_true rfl) d_ST_move_23 ⟨Nat.le_of_ble_eq_true rfl, Nat.le_of_ble_eq_true rfl⟩ (roK fun H locs hB => ?_)
  refine lv_if_eq (tgt := 31) hx hb d_ST_move_26 (by decide) (fun c_3 => ?_) (fun c_3 => ?_)
  · rw [if_pos c_3] at hR
    refine lv_aload_n hx hb d_ST_move_31 rfl (lv_at hl 0 rfl) ?_
    refine gt hC hB _ lkC_ST rfl i_ST 1 (by decide) rfl kw_257 rfl d_ST_move_32 ?_
    refine lv_iload_n hx hb d_ST_move_35 rfl (lv_at hl 1 rfl) ?_
    refine lv_iload_n hx hb d_ST_move_36 rfl (lv_at hl 2 rfl) ?_
    refine absurd hR ?_
    repeat' (first | with_reducible exact nn_some _ | with_reducible refine nn_ite ?_ ?_)
  · rw [if_neg c_3] at hR
    refine lv_iconst (v := 0) hx hb d_ST_move_29 (by decide) ?_
    cases hR

set_option maxHeartbeats 400000 in
set_option maxRecDepth 100000 in
theorem c_ST_port (σ : SC) (π : PJ) (hπ : RJ π σ) (x0 : Int32) (x1 : Int32) (RES : Bool × SC) (hR : m_ST_port σ x0 x1 = some RES) : CM l y_ST_port b_ST_port 3 (some .boolean) { frames := 5, cells := 1, slots := 4, locals := 109 } D (tyL cI cL cQ) N0 N0 [.ref (G 0 0), .int x0, .int x1] (wsC G cI cL cQ σ π rest) (some (.int (bi RES.1))) (pwC G cI cL cQ RES.2 rest) 1 4 := by
  obtain ⟨RV, RS⟩ := RES
  dsimp only
  refine met_of (own := R_ST) (by decide) rfl nwl_ok ?_
  intro p e s m below meth c hC hin hB
  have hx := hC.1
  have hb := hC.2.1
  have hl := lv_entry ([.ref (G 0 0), .int x0, .int x1]) (n := 3) (Nat.le_of_ble_eq_true rfl)
  rw [lg_entry_eq]
  generalize (lg_sl ([.ref (G 0 0), .int x0, .int x1]) ++ List.replicate (3 - (lg_sl ([.ref (G 0 0), .int x0, .int x1])).length) Slot.unset).toArray = ls at hl ⊢
  have hl : lv_has ls 3 [(0, .ref (G 0 0)), (1, .int x0), (2, .int x1)] := hl
  rw [m_ST_port] at hR
  refine lv_aload_n hx hb d_ST_port_0 rfl (lv_at hl 0 rfl) ?_
  refine lv_iload_n hx hb d_ST_port_1 rfl (lv_at hl 1 rfl) ?_
  obtain ⟨u_1, hq_1⟩ : ∃ z, m_ST_needSheet σ x0 = some z := by
    cases hz : m_ST_needSheet σ x0 with
    | none => rw [hz] at hR; cases hR
    | some z => exact ⟨z, rfl⟩
  rw [hq_1] at hR
  dsimp only at hR
  refine kV hC hB _ lkC_ST rfl (c_ST_needSheet σ π x0 u_1 hq_1) allw_ok mf_ST_needSheet kw_389 ks_5 kw_387 ⟨rfl, rfl, Nat.le_of_ble_eq_true rfl, Nat.le_of_ble_eq_true rfl⟩ rfl rfl hl.1 (Nat.le_of_ble_eq_true rfl) d_ST_port_2 ⟨Nat.le_of_ble_eq_true rfl, Nat.le_of_ble_eq_true rfl⟩ (roK fun H locs hB => ?_)
  refine lv_aload_n hx hb d_ST_port_5 rfl (lv_at hl 0 rfl) ?_
  refine lv_iload_n hx hb d_ST_port_6 rfl (lv_at hl 2 rfl) ?_
  obtain ⟨u_2, hq_2⟩ : ∃ z, m_ST_needName σ x1 = some z := by
    cases hz : m_ST_needName σ x1 with
    | none => rw [hz] at hR; cases hR
    | some z => exact ⟨z, rfl⟩
  rw [hq_2] at hR
  dsimp only at hR
  refine kV hC hB _ lkC_ST rfl (c_ST_needName σ π x1 u_2 hq_2) allw_ok mf_ST_needName kw_560 ks_13 kw_558 ⟨rfl, rfl, Nat.le_of_ble_eq_true rfl, Nat.le_of_ble_eq_true rfl⟩ rfl rfl hl.1 (Nat.le_of_ble_eq_true rfl) d_ST_port_7 ⟨Nat.le_of_ble_eq_true rfl, Nat.le_of_ble_eq_true rfl⟩ (roK fun H locs hB => ?_)
  refine lv_aload_n hx hb d_ST_port_10 rfl (lv_at hl 0 rfl) ?_
  refine gt hC hB _ lkC_ST rfl i_ST 1 (by decide) rfl kw_257 rfl d_ST_port_11 ?_
  refine lv_iload_n hx hb d_ST_port_14 rfl (lv_at hl 1 rfl) ?_
  refine lv_iload_n hx hb d_ST_port_15 rfl (lv_at hl 2 rfl) ?_
  refine kV hC hB _ lkC_Sheets rfl (c_Sheets_tells σ π x0 x1) allw_ok mf_Sheets_tells kw_543 kw_544 kw_563 ⟨rfl, rfl, Nat.le_of_ble_eq_true rfl, Nat.le_of_ble_eq_true rfl⟩ rfl rfl hl.1 (Nat.le_of_ble_eq_true rfl) d_ST_port_16 ⟨Nat.le_of_ble_eq_true rfl, Nat.le_of_ble_eq_true rfl⟩ (roK fun H locs hB => ?_)
  refine lv_if_eq (tgt := 24) hx hb d_ST_port_19 (by decide) (fun c_3 => ?_) (fun c_3 => ?_)
  · rw [if_pos c_3] at hR
    refine lv_aload_n hx hb d_ST_port_24 rfl (lv_at hl 0 rfl) ?_
    refine gt hC hB _ lkC_ST rfl i_ST 1 (by decide) rfl kw_257 rfl d_ST_port_25 ?_
    refine lv_iload_n hx hb d_ST_port_28 rfl (lv_at hl 1 rfl) ?_
    refine lv_iload_n hx hb d_ST_port_29 rfl (lv_at hl 2 rfl) ?_
    refine kV hC hB _ lkC_Sheets rfl (c_Sheets_addName σ π hπ x0 x1) allw_ok mf_Sheets_addName kw_565 kw_566 kw_564 ⟨rfl, rfl, Nat.le_of_ble_eq_true rfl, Nat.le_of_ble_eq_true rfl⟩ rfl rfl hl.1 (Nat.le_of_ble_eq_true rfl) d_ST_port_30 ⟨Nat.le_of_ble_eq_true rfl, Nat.le_of_ble_eq_true rfl⟩ (fun H locs w hw hB => ?_)
    obtain ⟨π, hπ, rfl⟩ := hw
    refine lv_aload_n hx hb d_ST_port_33 rfl (lv_at hl 0 rfl) ?_
    refine gt hC hB _ lkC_ST rfl i_ST 0 (by decide) rfl kw_256 rfl d_ST_port_34 ?_
    refine kV hC hB _ lkC_Journal rfl (c_Journal_keep (m_Sheets_addName σ x0 x1) π hπ) allw_ok mf_Journal_keep kw_329 kw_330 kw_328 ⟨rfl, rfl, Nat.le_of_ble_eq_true rfl, Nat.le_of_ble_eq_true rfl⟩ rfl rfl hl.1 (Nat.le_of_ble_eq_true rfl) d_ST_port_37 ⟨Nat.le_of_ble_eq_true rfl, Nat.le_of_ble_eq_true rfl⟩ (fun H locs w hw hB => ?_)
    obtain ⟨π, hπ, rfl⟩ := hw
    refine lv_iconst (v := 1) hx hb d_ST_port_40 (by decide) ?_
    obtain ⟨rfl, rfl⟩ := Prod.mk.inj (Option.some.inj hR)
    refine W.widen (k := 1) (n := 4) (Nat.le_of_ble_eq_true rfl) (Nat.le_of_ble_eq_true rfl) ?_
    exact rz (b := true) hC hB ⟨π, hπ, rfl⟩ d_ST_port_41
  · rw [if_neg c_3] at hR
    refine lv_iconst (v := 0) hx hb d_ST_port_22 (by decide) ?_
    obtain ⟨rfl, rfl⟩ := Prod.mk.inj (Option.some.inj hR)
    refine W.widen (k := 1) (n := 4) (Nat.le_of_ble_eq_true rfl) (Nat.le_of_ble_eq_true rfl) ?_
    exact rz (b := false) hC hB ⟨π, hπ, rfl⟩ d_ST_port_23

set_option maxHeartbeats 400000 in
set_option maxRecDepth 100000 in
theorem x_ST_port (htl : l.stackTraces = false) (σ : SC) (π : PJ) (x0 : Int32) (x1 : Int32) (hR : m_ST_port σ x0 x1 = none) : MX l y_ST_port b_ST_port 3 (some .boolean) { frames := 7, cells := 1, slots := 6, locals := 111 } D classes (tyL cI cL cQ) NWL ALLW N0 N1 [.ref (G 0 0), .int x0, .int x1] (wsC G cI cL cQ σ π rest) "java/lang/IndexOutOfBoundsException" 1 6 := by
  refine mx_of (own := R_ST) (by decide) rfl nwl_ok ?_
  intro p e s m below meth c hC hex hSW hB
  have hB0 := hB
  have hx := hC.1
  have hb := hC.2.1
  have hl := lv_entry ([.ref (G 0 0), .int x0, .int x1]) (n := 3) (Nat.le_of_ble_eq_true rfl)
  rw [lg_entry_eq]
  generalize (lg_sl ([.ref (G 0 0), .int x0, .int x1]) ++ List.replicate (3 - (lg_sl ([.ref (G 0 0), .int x0, .int x1])).length) Slot.unset).toArray = ls at hl ⊢
  have hl : lv_has ls 3 [(0, .ref (G 0 0)), (1, .int x0), (2, .int x1)] := hl
  rw [m_ST_port] at hR
  refine lv_aload_n hx hb d_ST_port_0 rfl (lv_at hl 0 rfl) ?_
  refine lv_iload_n hx hb d_ST_port_1 rfl (lv_at hl 1 rfl) ?_
  rcases hq_1 : m_ST_needSheet σ x0 with _ | u_1
  · refine kx hC hSW hB _ lkC_ST rfl (x_ST_needSheet htl σ π x0 hq_1) allw_ok mf_ST_needSheet kw_389 ks_5 kw_387 ⟨rfl, rfl, Nat.le_of_ble_eq_true rfl, Nat.le_of_ble_eq_true rfl⟩ rfl rfl hl.1 (Nat.le_of_ble_eq_true rfl) d_ST_port_2 ⟨Nat.le_of_ble_eq_true rfl, Nat.le_of_ble_eq_true rfl⟩ (fun q ce H locs hB h1 h2 h3 => ?_)
    exact tx_out hC hB (by rw [hex]; intro x hx; cases hx) h1 h2 h3 (Nat.le_of_ble_eq_true rfl) (Nat.le_of_ble_eq_true rfl)
  rw [hq_1] at hR
  dsimp only at hR
  refine kV hC hB _ lkC_ST rfl (c_ST_needSheet σ π x0 u_1 hq_1) allw_ok mf_ST_needSheet kw_389 ks_5 kw_387 ⟨rfl, rfl, Nat.le_of_ble_eq_true rfl, Nat.le_of_ble_eq_true rfl⟩ rfl rfl hl.1 (Nat.le_of_ble_eq_true rfl) d_ST_port_2 ⟨Nat.le_of_ble_eq_true rfl, Nat.le_of_ble_eq_true rfl⟩ (roK fun H locs hB => ?_)
  refine lv_aload_n hx hb d_ST_port_5 rfl (lv_at hl 0 rfl) ?_
  refine lv_iload_n hx hb d_ST_port_6 rfl (lv_at hl 2 rfl) ?_
  rcases hq_2 : m_ST_needName σ x1 with _ | u_2
  · refine kx hC hSW hB _ lkC_ST rfl (x_ST_needName htl σ π x1 hq_2) allw_ok mf_ST_needName kw_560 ks_13 kw_558 ⟨rfl, rfl, Nat.le_of_ble_eq_true rfl, Nat.le_of_ble_eq_true rfl⟩ rfl rfl hl.1 (Nat.le_of_ble_eq_true rfl) d_ST_port_7 ⟨Nat.le_of_ble_eq_true rfl, Nat.le_of_ble_eq_true rfl⟩ (fun q ce H locs hB h1 h2 h3 => ?_)
    exact tx_out hC hB (by rw [hex]; intro x hx; cases hx) h1 h2 h3 (Nat.le_of_ble_eq_true rfl) (Nat.le_of_ble_eq_true rfl)
  rw [hq_2] at hR
  dsimp only at hR
  refine kV hC hB _ lkC_ST rfl (c_ST_needName σ π x1 u_2 hq_2) allw_ok mf_ST_needName kw_560 ks_13 kw_558 ⟨rfl, rfl, Nat.le_of_ble_eq_true rfl, Nat.le_of_ble_eq_true rfl⟩ rfl rfl hl.1 (Nat.le_of_ble_eq_true rfl) d_ST_port_7 ⟨Nat.le_of_ble_eq_true rfl, Nat.le_of_ble_eq_true rfl⟩ (roK fun H locs hB => ?_)
  refine lv_aload_n hx hb d_ST_port_10 rfl (lv_at hl 0 rfl) ?_
  refine gt hC hB _ lkC_ST rfl i_ST 1 (by decide) rfl kw_257 rfl d_ST_port_11 ?_
  refine lv_iload_n hx hb d_ST_port_14 rfl (lv_at hl 1 rfl) ?_
  refine lv_iload_n hx hb d_ST_port_15 rfl (lv_at hl 2 rfl) ?_
  refine kV hC hB _ lkC_Sheets rfl (c_Sheets_tells σ π x0 x1) allw_ok mf_Sheets_tells kw_543 kw_544 kw_563 ⟨rfl, rfl, Nat.le_of_ble_eq_true rfl, Nat.le_of_ble_eq_true rfl⟩ rfl rfl hl.1 (Nat.le_of_ble_eq_true rfl) d_ST_port_16 ⟨Nat.le_of_ble_eq_true rfl, Nat.le_of_ble_eq_true rfl⟩ (roK fun H locs hB => ?_)
  refine lv_if_eq (tgt := 24) hx hb d_ST_port_19 (by decide) (fun c_3 => ?_) (fun c_3 => ?_)
  · rw [if_pos c_3] at hR
    refine lv_aload_n hx hb d_ST_port_24 rfl (lv_at hl 0 rfl) ?_
    refine gt hC hB _ lkC_ST rfl i_ST 1 (by decide) rfl kw_257 rfl d_ST_port_25 ?_
    refine lv_iload_n hx hb d_ST_port_28 rfl (lv_at hl 1 rfl) ?_
    refine lv_iload_n hx hb d_ST_port_29 rfl (lv_at hl 2 rfl) ?_
    refine absurd hR ?_
    repeat' (first | with_reducible exact nn_some _ | with_reducible refine nn_ite ?_ ?_)
  · rw [if_neg c_3] at hR
    refine lv_iconst (v := 0) hx hb d_ST_port_22 (by decide) ?_
    cases hR

set_option maxHeartbeats 400000 in
set_option maxRecDepth 100000 in
theorem c_ST_join (σ : SC) (π : PJ) (hπ : RJ π σ) (x0 : Int32) (x1 : Int32) (x2 : Int32) (RES : Bool × SC) (hR : m_ST_join σ x0 x1 x2 = some RES) : CM l y_ST_join b_ST_join 4 (some .boolean) { frames := 5, cells := 1, slots := 4, locals := 110 } D (tyL cI cL cQ) N0 N0 [.ref (G 0 0), .int x0, .int x1, .int x2] (wsC G cI cL cQ σ π rest) (some (.int (bi RES.1))) (pwC G cI cL cQ RES.2 rest) 1 4 := by
  obtain ⟨RV, RS⟩ := RES
  dsimp only
  refine met_of (own := R_ST) (by decide) rfl nwl_ok ?_
  intro p e s m below meth c hC hin hB
  have hx := hC.1
  have hb := hC.2.1
  have hl := lv_entry ([.ref (G 0 0), .int x0, .int x1, .int x2]) (n := 4) (Nat.le_of_ble_eq_true rfl)
  rw [lg_entry_eq]
  generalize (lg_sl ([.ref (G 0 0), .int x0, .int x1, .int x2]) ++ List.replicate (4 - (lg_sl ([.ref (G 0 0), .int x0, .int x1, .int x2])).length) Slot.unset).toArray = ls at hl ⊢
  have hl : lv_has ls 4 [(0, .ref (G 0 0)), (1, .int x0), (2, .int x1), (3, .int x2)] := hl
  rw [m_ST_join] at hR
  refine lv_aload_n hx hb d_ST_join_0 rfl (lv_at hl 0 rfl) ?_
  refine lv_iload_n hx hb d_ST_join_1 rfl (lv_at hl 1 rfl) ?_
  obtain ⟨u_1, hq_1⟩ : ∃ z, m_ST_needPlacement σ x0 = some z := by
    cases hz : m_ST_needPlacement σ x0 with
    | none => rw [hz] at hR; cases hR
    | some z => exact ⟨z, rfl⟩
  rw [hq_1] at hR
  dsimp only at hR
  refine kV hC hB _ lkC_ST rfl (c_ST_needPlacement σ π x0 u_1 hq_1) allw_ok mf_ST_needPlacement kw_513 ks_11 kw_511 ⟨rfl, rfl, Nat.le_of_ble_eq_true rfl, Nat.le_of_ble_eq_true rfl⟩ rfl rfl hl.1 (Nat.le_of_ble_eq_true rfl) d_ST_join_2 ⟨Nat.le_of_ble_eq_true rfl, Nat.le_of_ble_eq_true rfl⟩ (roK fun H locs hB => ?_)
  refine lv_aload_n hx hb d_ST_join_5 rfl (lv_at hl 0 rfl) ?_
  refine lv_iload_n hx hb d_ST_join_6 rfl (lv_at hl 2 rfl) ?_
  obtain ⟨u_2, hq_2⟩ : ∃ z, m_ST_needName σ x1 = some z := by
    cases hz : m_ST_needName σ x1 with
    | none => rw [hz] at hR; cases hR
    | some z => exact ⟨z, rfl⟩
  rw [hq_2] at hR
  dsimp only at hR
  refine kV hC hB _ lkC_ST rfl (c_ST_needName σ π x1 u_2 hq_2) allw_ok mf_ST_needName kw_560 ks_13 kw_558 ⟨rfl, rfl, Nat.le_of_ble_eq_true rfl, Nat.le_of_ble_eq_true rfl⟩ rfl rfl hl.1 (Nat.le_of_ble_eq_true rfl) d_ST_join_7 ⟨Nat.le_of_ble_eq_true rfl, Nat.le_of_ble_eq_true rfl⟩ (roK fun H locs hB => ?_)
  refine lv_aload_n hx hb d_ST_join_10 rfl (lv_at hl 0 rfl) ?_
  refine lv_iload_n hx hb d_ST_join_11 rfl (lv_at hl 3 rfl) ?_
  obtain ⟨u_3, hq_3⟩ : ∃ z, m_ST_needName σ x2 = some z := by
    cases hz : m_ST_needName σ x2 with
    | none => rw [hz] at hR; cases hR
    | some z => exact ⟨z, rfl⟩
  rw [hq_3] at hR
  dsimp only at hR
  refine kV hC hB _ lkC_ST rfl (c_ST_needName σ π x2 u_3 hq_3) allw_ok mf_ST_needName kw_560 ks_13 kw_558 ⟨rfl, rfl, Nat.le_of_ble_eq_true rfl, Nat.le_of_ble_eq_true rfl⟩ rfl rfl hl.1 (Nat.le_of_ble_eq_true rfl) d_ST_join_12 ⟨Nat.le_of_ble_eq_true rfl, Nat.le_of_ble_eq_true rfl⟩ (roK fun H locs hB => ?_)
  refine lv_aload_n hx hb d_ST_join_15 rfl (lv_at hl 0 rfl) ?_
  refine gt hC hB _ lkC_ST rfl i_ST 1 (by decide) rfl kw_257 rfl d_ST_join_16 ?_
  refine lv_aload_n hx hb d_ST_join_19 rfl (lv_at hl 0 rfl) ?_
  refine gt hC hB _ lkC_ST rfl i_ST 1 (by decide) rfl kw_257 rfl d_ST_join_20 ?_
  refine lv_iload_n hx hb d_ST_join_23 rfl (lv_at hl 1 rfl) ?_
  refine kV hC hB _ lkC_Sheets rfl (c_Sheets_sheetOf σ π x0) allw_ok mf_Sheets_sheetOf kw_249 kw_250 kw_533 ⟨rfl, rfl, Nat.le_of_ble_eq_true rfl, Nat.le_of_ble_eq_true rfl⟩ rfl rfl hl.1 (Nat.le_of_ble_eq_true rfl) d_ST_join_24 ⟨Nat.le_of_ble_eq_true rfl, Nat.le_of_ble_eq_true rfl⟩ (roK fun H locs hB => ?_)
  refine lv_iload_n hx hb d_ST_join_27 rfl (lv_at hl 2 rfl) ?_
  refine kV hC hB _ lkC_Sheets rfl (c_Sheets_tells σ π (m_Sheets_sheetOf σ x0) x1) allw_ok mf_Sheets_tells kw_543 kw_544 kw_563 ⟨rfl, rfl, Nat.le_of_ble_eq_true rfl, Nat.le_of_ble_eq_true rfl⟩ rfl rfl hl.1 (Nat.le_of_ble_eq_true rfl) d_ST_join_28 ⟨Nat.le_of_ble_eq_true rfl, Nat.le_of_ble_eq_true rfl⟩ (roK fun H locs hB => ?_)
  refine lv_if_eq (tgt := 66) hx hb d_ST_join_31 (by decide) (fun c_4 => ?_) (fun c_4 => ?_)
  · rw [if_pos c_4] at hR
    refine lv_iconst (v := 0) hx hb d_ST_join_66 (by decide) ?_
    obtain ⟨rfl, rfl⟩ := Prod.mk.inj (Option.some.inj hR)
    refine W.widen (k := 1) (n := 4) (Nat.le_of_ble_eq_true rfl) (Nat.le_of_ble_eq_true rfl) ?_
    exact rz (b := false) hC hB ⟨π, hπ, rfl⟩ d_ST_join_67
  · rw [if_neg c_4] at hR
    refine lv_aload_n hx hb d_ST_join_34 rfl (lv_at hl 0 rfl) ?_
    refine gt hC hB _ lkC_ST rfl i_ST 1 (by decide) rfl kw_257 rfl d_ST_join_35 ?_
    refine lv_aload_n hx hb d_ST_join_38 rfl (lv_at hl 0 rfl) ?_
    refine gt hC hB _ lkC_ST rfl i_ST 1 (by decide) rfl kw_257 rfl d_ST_join_39 ?_
    refine lv_iload_n hx hb d_ST_join_42 rfl (lv_at hl 1 rfl) ?_
    refine kV hC hB _ lkC_Sheets rfl (c_Sheets_parentOf σ π x0) allw_ok mf_Sheets_parentOf kw_479 kw_480 kw_575 ⟨rfl, rfl, Nat.le_of_ble_eq_true rfl, Nat.le_of_ble_eq_true rfl⟩ rfl rfl hl.1 (Nat.le_of_ble_eq_true rfl) d_ST_join_43 ⟨Nat.le_of_ble_eq_true rfl, Nat.le_of_ble_eq_true rfl⟩ (roK fun H locs hB => ?_)
    refine lv_iload_n hx hb d_ST_join_46 rfl (lv_at hl 3 rfl) ?_
    refine kV hC hB _ lkC_Sheets rfl (c_Sheets_tells σ π (m_Sheets_parentOf σ x0) x2) allw_ok mf_Sheets_tells kw_543 kw_544 kw_563 ⟨rfl, rfl, Nat.le_of_ble_eq_true rfl, Nat.le_of_ble_eq_true rfl⟩ rfl rfl hl.1 (Nat.le_of_ble_eq_true rfl) d_ST_join_47 ⟨Nat.le_of_ble_eq_true rfl, Nat.le_of_ble_eq_true rfl⟩ (roK fun H locs hB => ?_)
    refine lv_if_eq (tgt := 66) hx hb d_ST_join_50 (by decide) (fun c_5 => ?_) (fun c_5 => ?_)
    · rw [if_pos c_5] at hR
      refine lv_iconst (v := 0) hx hb d_ST_join_66 (by decide) ?_
      obtain ⟨rfl, rfl⟩ := Prod.mk.inj (Option.some.inj hR)
      refine W.widen (k := 1) (n := 4) (Nat.le_of_ble_eq_true rfl) (Nat.le_of_ble_eq_true rfl) ?_
      exact rz (b := false) hC hB ⟨π, hπ, rfl⟩ d_ST_join_67
    · rw [if_neg c_5] at hR
      refine lv_aload_n hx hb d_ST_join_53 rfl (lv_at hl 0 rfl) ?_
      refine gt hC hB _ lkC_ST rfl i_ST 1 (by decide) rfl kw_257 rfl d_ST_join_54 ?_
      refine lv_iload_n hx hb d_ST_join_57 rfl (lv_at hl 1 rfl) ?_
      refine lv_iload_n hx hb d_ST_join_58 rfl (lv_at hl 2 rfl) ?_
      refine kV hC hB _ lkC_Sheets rfl (c_Sheets_jointOf σ π x0 x1) allw_ok mf_Sheets_jointOf kw_539 kw_540 kw_576 ⟨rfl, rfl, Nat.le_of_ble_eq_true rfl, Nat.le_of_ble_eq_true rfl⟩ rfl rfl hl.1 (Nat.le_of_ble_eq_true rfl) d_ST_join_59 ⟨Nat.le_of_ble_eq_true rfl, Nat.le_of_ble_eq_true rfl⟩ (roK fun H locs hB => ?_)
      refine lv_iload_n hx hb d_ST_join_62 rfl (lv_at hl 3 rfl) ?_
      refine lv_icmp_ne (tgt := 68) hx hb d_ST_join_63 (by decide) (fun c_6 => ?_) (fun c_6 => ?_)
      · rw [if_neg c_6] at hR
        refine lv_aload_n hx hb d_ST_join_68 rfl (lv_at hl 0 rfl) ?_
        refine gt hC hB _ lkC_ST rfl i_ST 1 (by decide) rfl kw_257 rfl d_ST_join_69 ?_
        refine lv_iload_n hx hb d_ST_join_72 rfl (lv_at hl 1 rfl) ?_
        refine lv_iload_n hx hb d_ST_join_73 rfl (lv_at hl 2 rfl) ?_
        refine lv_iload_n hx hb d_ST_join_74 rfl (lv_at hl 3 rfl) ?_
        refine kV hC hB _ lkC_Sheets rfl (c_Sheets_setJoint σ π hπ x0 x1 x2) allw_ok mf_Sheets_setJoint kw_548 kw_549 kw_577 ⟨rfl, rfl, Nat.le_of_ble_eq_true rfl, Nat.le_of_ble_eq_true rfl⟩ rfl rfl hl.1 (Nat.le_of_ble_eq_true rfl) d_ST_join_75 ⟨Nat.le_of_ble_eq_true rfl, Nat.le_of_ble_eq_true rfl⟩ (fun H locs w hw hB => ?_)
        obtain ⟨π, hπ, rfl⟩ := hw
        refine lv_aload_n hx hb d_ST_join_78 rfl (lv_at hl 0 rfl) ?_
        refine gt hC hB _ lkC_ST rfl i_ST 0 (by decide) rfl kw_256 rfl d_ST_join_79 ?_
        refine kV hC hB _ lkC_Journal rfl (c_Journal_keep (m_Sheets_setJoint σ x0 x1 x2) π hπ) allw_ok mf_Journal_keep kw_329 kw_330 kw_328 ⟨rfl, rfl, Nat.le_of_ble_eq_true rfl, Nat.le_of_ble_eq_true rfl⟩ rfl rfl hl.1 (Nat.le_of_ble_eq_true rfl) d_ST_join_82 ⟨Nat.le_of_ble_eq_true rfl, Nat.le_of_ble_eq_true rfl⟩ (fun H locs w hw hB => ?_)
        obtain ⟨π, hπ, rfl⟩ := hw
        refine lv_iconst (v := 1) hx hb d_ST_join_85 (by decide) ?_
        obtain ⟨rfl, rfl⟩ := Prod.mk.inj (Option.some.inj hR)
        refine W.widen (k := 1) (n := 4) (Nat.le_of_ble_eq_true rfl) (Nat.le_of_ble_eq_true rfl) ?_
        exact rz (b := true) hC hB ⟨π, hπ, rfl⟩ d_ST_join_86
      · rw [if_pos c_6] at hR
        refine lv_iconst (v := 0) hx hb d_ST_join_66 (by decide) ?_
        obtain ⟨rfl, rfl⟩ := Prod.mk.inj (Option.some.inj hR)
        refine W.widen (k := 1) (n := 4) (Nat.le_of_ble_eq_true rfl) (Nat.le_of_ble_eq_true rfl) ?_
        exact rz (b := false) hC hB ⟨π, hπ, rfl⟩ d_ST_join_67

set_option maxHeartbeats 400000 in
set_option maxRecDepth 100000 in
theorem x_ST_join (htl : l.stackTraces = false) (σ : SC) (π : PJ) (x0 : Int32) (x1 : Int32) (x2 : Int32) (hR : m_ST_join σ x0 x1 x2 = none) : MX l y_ST_join b_ST_join 4 (some .boolean) { frames := 7, cells := 1, slots := 6, locals := 111 } D classes (tyL cI cL cQ) NWL ALLW N0 N1 [.ref (G 0 0), .int x0, .int x1, .int x2] (wsC G cI cL cQ σ π rest) "java/lang/IndexOutOfBoundsException" 1 6 := by
  refine mx_of (own := R_ST) (by decide) rfl nwl_ok ?_
  intro p e s m below meth c hC hex hSW hB
  have hB0 := hB
  have hx := hC.1
  have hb := hC.2.1
  have hl := lv_entry ([.ref (G 0 0), .int x0, .int x1, .int x2]) (n := 4) (Nat.le_of_ble_eq_true rfl)
  rw [lg_entry_eq]
  generalize (lg_sl ([.ref (G 0 0), .int x0, .int x1, .int x2]) ++ List.replicate (4 - (lg_sl ([.ref (G 0 0), .int x0, .int x1, .int x2])).length) Slot.unset).toArray = ls at hl ⊢
  have hl : lv_has ls 4 [(0, .ref (G 0 0)), (1, .int x0), (2, .int x1), (3, .int x2)] := hl
  rw [m_ST_join] at hR
  refine lv_aload_n hx hb d_ST_join_0 rfl (lv_at hl 0 rfl) ?_
  refine lv_iload_n hx hb d_ST_join_1 rfl (lv_at hl 1 rfl) ?_
  rcases hq_1 : m_ST_needPlacement σ x0 with _ | u_1
  · refine kx hC hSW hB _ lkC_ST rfl (x_ST_needPlacement htl σ π x0 hq_1) allw_ok mf_ST_needPlacement kw_513 ks_11 kw_511 ⟨rfl, rfl, Nat.le_of_ble_eq_true rfl, Nat.le_of_ble_eq_true rfl⟩ rfl rfl hl.1 (Nat.le_of_ble_eq_true rfl) d_ST_join_2 ⟨Nat.le_of_ble_eq_true rfl, Nat.le_of_ble_eq_true rfl⟩ (fun q ce H locs hB h1 h2 h3 => ?_)
    exact tx_out hC hB (by rw [hex]; intro x hx; cases hx) h1 h2 h3 (Nat.le_of_ble_eq_true rfl) (Nat.le_of_ble_eq_true rfl)
  rw [hq_1] at hR
  dsimp only at hR
  refine kV hC hB _ lkC_ST rfl (c_ST_needPlacement σ π x0 u_1 hq_1) allw_ok mf_ST_needPlacement kw_513 ks_11 kw_511 ⟨rfl, rfl, Nat.le_of_ble_eq_true rfl, Nat.le_of_ble_eq_true rfl⟩ rfl rfl hl.1 (Nat.le_of_ble_eq_true rfl) d_ST_join_2 ⟨Nat.le_of_ble_eq_true rfl, Nat.le_of_ble_eq_true rfl⟩ (roK fun H locs hB => ?_)
  refine lv_aload_n hx hb d_ST_join_5 rfl (lv_at hl 0 rfl) ?_
  refine lv_iload_n hx hb d_ST_join_6 rfl (lv_at hl 2 rfl) ?_
  rcases hq_2 : m_ST_needName σ x1 with _ | u_2
  · refine kx hC hSW hB _ lkC_ST rfl (x_ST_needName htl σ π x1 hq_2) allw_ok mf_ST_needName kw_560 ks_13 kw_558 ⟨rfl, rfl, Nat.le_of_ble_eq_true rfl, Nat.le_of_ble_eq_true rfl⟩ rfl rfl hl.1 (Nat.le_of_ble_eq_true rfl) d_ST_join_7 ⟨Nat.le_of_ble_eq_true rfl, Nat.le_of_ble_eq_true rfl⟩ (fun q ce H locs hB h1 h2 h3 => ?_)
    exact tx_out hC hB (by rw [hex]; intro x hx; cases hx) h1 h2 h3 (Nat.le_of_ble_eq_true rfl) (Nat.le_of_ble_eq_true rfl)
  rw [hq_2] at hR
  dsimp only at hR
  refine kV hC hB _ lkC_ST rfl (c_ST_needName σ π x1 u_2 hq_2) allw_ok mf_ST_needName kw_560 ks_13 kw_558 ⟨rfl, rfl, Nat.le_of_ble_eq_true rfl, Nat.le_of_ble_eq_true rfl⟩ rfl rfl hl.1 (Nat.le_of_ble_eq_true rfl) d_ST_join_7 ⟨Nat.le_of_ble_eq_true rfl, Nat.le_of_ble_eq_true rfl⟩ (roK fun H locs hB => ?_)
  refine lv_aload_n hx hb d_ST_join_10 rfl (lv_at hl 0 rfl) ?_
  refine lv_iload_n hx hb d_ST_join_11 rfl (lv_at hl 3 rfl) ?_
  rcases hq_3 : m_ST_needName σ x2 with _ | u_3
  · refine kx hC hSW hB _ lkC_ST rfl (x_ST_needName htl σ π x2 hq_3) allw_ok mf_ST_needName kw_560 ks_13 kw_558 ⟨rfl, rfl, Nat.le_of_ble_eq_true rfl, Nat.le_of_ble_eq_true rfl⟩ rfl rfl hl.1 (Nat.le_of_ble_eq_true rfl) d_ST_join_12 ⟨Nat.le_of_ble_eq_true rfl, Nat.le_of_ble_eq_true rfl⟩ (fun q ce H locs hB h1 h2 h3 => ?_)
    exact tx_out hC hB (by rw [hex]; intro x hx; cases hx) h1 h2 h3 (Nat.le_of_ble_eq_true rfl) (Nat.le_of_ble_eq_true rfl)
  rw [hq_3] at hR
  dsimp only at hR
  refine kV hC hB _ lkC_ST rfl (c_ST_needName σ π x2 u_3 hq_3) allw_ok mf_ST_needName kw_560 ks_13 kw_558 ⟨rfl, rfl, Nat.le_of_ble_eq_true rfl, Nat.le_of_ble_eq_true rfl⟩ rfl rfl hl.1 (Nat.le_of_ble_eq_true rfl) d_ST_join_12 ⟨Nat.le_of_ble_eq_true rfl, Nat.le_of_ble_eq_true rfl⟩ (roK fun H locs hB => ?_)
  refine lv_aload_n hx hb d_ST_join_15 rfl (lv_at hl 0 rfl) ?_
  refine gt hC hB _ lkC_ST rfl i_ST 1 (by decide) rfl kw_257 rfl d_ST_join_16 ?_
  refine lv_aload_n hx hb d_ST_join_19 rfl (lv_at hl 0 rfl) ?_
  refine gt hC hB _ lkC_ST rfl i_ST 1 (by decide) rfl kw_257 rfl d_ST_join_20 ?_
  refine lv_iload_n hx hb d_ST_join_23 rfl (lv_at hl 1 rfl) ?_
  refine kV hC hB _ lkC_Sheets rfl (c_Sheets_sheetOf σ π x0) allw_ok mf_Sheets_sheetOf kw_249 kw_250 kw_533 ⟨rfl, rfl, Nat.le_of_ble_eq_true rfl, Nat.le_of_ble_eq_true rfl⟩ rfl rfl hl.1 (Nat.le_of_ble_eq_true rfl) d_ST_join_24 ⟨Nat.le_of_ble_eq_true rfl, Nat.le_of_ble_eq_true rfl⟩ (roK fun H locs hB => ?_)
  refine lv_iload_n hx hb d_ST_join_27 rfl (lv_at hl 2 rfl) ?_
  refine kV hC hB _ lkC_Sheets rfl (c_Sheets_tells σ π (m_Sheets_sheetOf σ x0) x1) allw_ok mf_Sheets_tells kw_543 kw_544 kw_563 ⟨rfl, rfl, Nat.le_of_ble_eq_true rfl, Nat.le_of_ble_eq_true rfl⟩ rfl rfl hl.1 (Nat.le_of_ble_eq_true rfl) d_ST_join_28 ⟨Nat.le_of_ble_eq_true rfl, Nat.le_of_ble_eq_true rfl⟩ (roK fun H locs hB => ?_)
  refine lv_if_eq (tgt := 66) hx hb d_ST_join_31 (by decide) (fun c_4 => ?_) (fun c_4 => ?_)
  · rw [if_pos c_4] at hR
    refine lv_iconst (v := 0) hx hb d_ST_join_66 (by decide) ?_
    cases hR
  · rw [if_neg c_4] at hR
    refine lv_aload_n hx hb d_ST_join_34 rfl (lv_at hl 0 rfl) ?_
    refine gt hC hB _ lkC_ST rfl i_ST 1 (by decide) rfl kw_257 rfl d_ST_join_35 ?_
    refine lv_aload_n hx hb d_ST_join_38 rfl (lv_at hl 0 rfl) ?_
    refine gt hC hB _ lkC_ST rfl i_ST 1 (by decide) rfl kw_257 rfl d_ST_join_39 ?_
    refine lv_iload_n hx hb d_ST_join_42 rfl (lv_at hl 1 rfl) ?_
    refine kV hC hB _ lkC_Sheets rfl (c_Sheets_parentOf σ π x0) allw_ok mf_Sheets_parentOf kw_479 kw_480 kw_575 ⟨rfl, rfl, Nat.le_of_ble_eq_true rfl, Nat.le_of_ble_eq_true rfl⟩ rfl rfl hl.1 (Nat.le_of_ble_eq_true rfl) d_ST_join_43 ⟨Nat.le_of_ble_eq_true rfl, Nat.le_of_ble_eq_true rfl⟩ (roK fun H locs hB => ?_)
    refine lv_iload_n hx hb d_ST_join_46 rfl (lv_at hl 3 rfl) ?_
    refine kV hC hB _ lkC_Sheets rfl (c_Sheets_tells σ π (m_Sheets_parentOf σ x0) x2) allw_ok mf_Sheets_tells kw_543 kw_544 kw_563 ⟨rfl, rfl, Nat.le_of_ble_eq_true rfl, Nat.le_of_ble_eq_true rfl⟩ rfl rfl hl.1 (Nat.le_of_ble_eq_true rfl) d_ST_join_47 ⟨Nat.le_of_ble_eq_true rfl, Nat.le_of_ble_eq_true rfl⟩ (roK fun H locs hB => ?_)
    refine lv_if_eq (tgt := 66) hx hb d_ST_join_50 (by decide) (fun c_5 => ?_) (fun c_5 => ?_)
    · rw [if_pos c_5] at hR
      refine lv_iconst (v := 0) hx hb d_ST_join_66 (by decide) ?_
      cases hR
    · rw [if_neg c_5] at hR
      refine lv_aload_n hx hb d_ST_join_53 rfl (lv_at hl 0 rfl) ?_
      refine gt hC hB _ lkC_ST rfl i_ST 1 (by decide) rfl kw_257 rfl d_ST_join_54 ?_
      refine lv_iload_n hx hb d_ST_join_57 rfl (lv_at hl 1 rfl) ?_
      refine lv_iload_n hx hb d_ST_join_58 rfl (lv_at hl 2 rfl) ?_
      refine kV hC hB _ lkC_Sheets rfl (c_Sheets_jointOf σ π x0 x1) allw_ok mf_Sheets_jointOf kw_539 kw_540 kw_576 ⟨rfl, rfl, Nat.le_of_ble_eq_true rfl, Nat.le_of_ble_eq_true rfl⟩ rfl rfl hl.1 (Nat.le_of_ble_eq_true rfl) d_ST_join_59 ⟨Nat.le_of_ble_eq_true rfl, Nat.le_of_ble_eq_true rfl⟩ (roK fun H locs hB => ?_)
      refine lv_iload_n hx hb d_ST_join_62 rfl (lv_at hl 3 rfl) ?_
      refine lv_icmp_ne (tgt := 68) hx hb d_ST_join_63 (by decide) (fun c_6 => ?_) (fun c_6 => ?_)
      · rw [if_neg c_6] at hR
        refine lv_aload_n hx hb d_ST_join_68 rfl (lv_at hl 0 rfl) ?_
        refine gt hC hB _ lkC_ST rfl i_ST 1 (by decide) rfl kw_257 rfl d_ST_join_69 ?_
        refine lv_iload_n hx hb d_ST_join_72 rfl (lv_at hl 1 rfl) ?_
        refine lv_iload_n hx hb d_ST_join_73 rfl (lv_at hl 2 rfl) ?_
        refine lv_iload_n hx hb d_ST_join_74 rfl (lv_at hl 3 rfl) ?_
        refine absurd hR ?_
        repeat' (first | with_reducible exact nn_some _ | with_reducible refine nn_ite ?_ ?_)
      · rw [if_pos c_6] at hR
        refine lv_iconst (v := 0) hx hb d_ST_join_66 (by decide) ?_
        cases hR

set_option maxHeartbeats 400000 in
set_option maxRecDepth 100000 in
theorem c_ST_joined (σ : SC) (π : PJ) (x0 : Int32) (x1 : Int32) (RES : Int32) (hR : m_ST_joined σ x0 x1 = some RES) : CM l y_ST_joined b_ST_joined 3 (some .int) { frames := 4, cells := 0, slots := 0, locals := 84 } D (tyL cI cL cQ) N0 N1 [.ref (G 0 0), .int x0, .int x1] (wsC G cI cL cQ σ π rest) (some (.int RES)) (fun w => w = wsC G cI cL cQ σ π rest) 0 0 := by
  refine met_of (own := R_ST) (by decide) rfl nwl_ok ?_
  intro p e s m below meth c hC hin hB
  have hx := hC.1
  have hb := hC.2.1
  have hl := lv_entry ([.ref (G 0 0), .int x0, .int x1]) (n := 3) (Nat.le_of_ble_eq_true rfl)
  rw [lg_entry_eq]
  generalize (lg_sl ([.ref (G 0 0), .int x0, .int x1]) ++ List.replicate (3 - (lg_sl ([.ref (G 0 0), .int x0, .int x1])).length) Slot.unset).toArray = ls at hl ⊢
  have hl : lv_has ls 3 [(0, .ref (G 0 0)), (1, .int x0), (2, .int x1)] := hl
  rw [m_ST_joined] at hR
  refine lv_aload_n hx hb d_ST_joined_0 rfl (lv_at hl 0 rfl) ?_
  refine lv_iload_n hx hb d_ST_joined_1 rfl (lv_at hl 1 rfl) ?_
  obtain ⟨u_1, hq_1⟩ : ∃ z, m_ST_needPlacement σ x0 = some z := by
    cases hz : m_ST_needPlacement σ x0 with
    | none => rw [hz] at hR; cases hR
    | some z => exact ⟨z, rfl⟩
  rw [hq_1] at hR
  dsimp only at hR
  refine kV hC hB _ lkC_ST rfl (c_ST_needPlacement σ π x0 u_1 hq_1) allw_ok mf_ST_needPlacement kw_513 ks_11 kw_511 ⟨rfl, rfl, Nat.le_of_ble_eq_true rfl, Nat.le_of_ble_eq_true rfl⟩ rfl rfl hl.1 (Nat.le_of_ble_eq_true rfl) d_ST_joined_2 ⟨Nat.le_of_ble_eq_true rfl, Nat.le_of_ble_eq_true rfl⟩ (roK fun H locs hB => ?_)
  refine lv_aload_n hx hb d_ST_joined_5 rfl (lv_at hl 0 rfl) ?_
  refine lv_iload_n hx hb d_ST_joined_6 rfl (lv_at hl 2 rfl) ?_
  obtain ⟨u_2, hq_2⟩ : ∃ z, m_ST_needName σ x1 = some z := by
    cases hz : m_ST_needName σ x1 with
    | none => rw [hz] at hR; cases hR
    | some z => exact ⟨z, rfl⟩
  rw [hq_2] at hR
  dsimp only at hR
  refine kV hC hB _ lkC_ST rfl (c_ST_needName σ π x1 u_2 hq_2) allw_ok mf_ST_needName kw_560 ks_13 kw_558 ⟨rfl, rfl, Nat.le_of_ble_eq_true rfl, Nat.le_of_ble_eq_true rfl⟩ rfl rfl hl.1 (Nat.le_of_ble_eq_true rfl) d_ST_joined_7 ⟨Nat.le_of_ble_eq_true rfl, Nat.le_of_ble_eq_true rfl⟩ (roK fun H locs hB => ?_)
  refine lv_aload_n hx hb d_ST_joined_10 rfl (lv_at hl 0 rfl) ?_
  refine gt hC hB _ lkC_ST rfl i_ST 1 (by decide) rfl kw_257 rfl d_ST_joined_11 ?_
  refine lv_iload_n hx hb d_ST_joined_14 rfl (lv_at hl 1 rfl) ?_
  refine lv_iload_n hx hb d_ST_joined_15 rfl (lv_at hl 2 rfl) ?_
  refine kV hC hB _ lkC_Sheets rfl (c_Sheets_jointOf σ π x0 x1) allw_ok mf_Sheets_jointOf kw_539 kw_540 kw_576 ⟨rfl, rfl, Nat.le_of_ble_eq_true rfl, Nat.le_of_ble_eq_true rfl⟩ rfl rfl hl.1 (Nat.le_of_ble_eq_true rfl) d_ST_joined_16 ⟨Nat.le_of_ble_eq_true rfl, Nat.le_of_ble_eq_true rfl⟩ (roK fun H locs hB => ?_)
  obtain rfl := Option.some.inj hR
  exact ri hC hB rfl d_ST_joined_19

set_option maxHeartbeats 400000 in
set_option maxRecDepth 100000 in
theorem x_ST_joined (htl : l.stackTraces = false) (σ : SC) (π : PJ) (x0 : Int32) (x1 : Int32) (hR : m_ST_joined σ x0 x1 = none) : MX l y_ST_joined b_ST_joined 3 (some .int) { frames := 7, cells := 1, slots := 6, locals := 111 } D classes (tyL cI cL cQ) NWL ALLW N0 N1 [.ref (G 0 0), .int x0, .int x1] (wsC G cI cL cQ σ π rest) "java/lang/IndexOutOfBoundsException" 1 6 := by
  refine mx_of (own := R_ST) (by decide) rfl nwl_ok ?_
  intro p e s m below meth c hC hex hSW hB
  have hB0 := hB
  have hx := hC.1
  have hb := hC.2.1
  have hl := lv_entry ([.ref (G 0 0), .int x0, .int x1]) (n := 3) (Nat.le_of_ble_eq_true rfl)
  rw [lg_entry_eq]
  generalize (lg_sl ([.ref (G 0 0), .int x0, .int x1]) ++ List.replicate (3 - (lg_sl ([.ref (G 0 0), .int x0, .int x1])).length) Slot.unset).toArray = ls at hl ⊢
  have hl : lv_has ls 3 [(0, .ref (G 0 0)), (1, .int x0), (2, .int x1)] := hl
  rw [m_ST_joined] at hR
  refine lv_aload_n hx hb d_ST_joined_0 rfl (lv_at hl 0 rfl) ?_
  refine lv_iload_n hx hb d_ST_joined_1 rfl (lv_at hl 1 rfl) ?_
  rcases hq_1 : m_ST_needPlacement σ x0 with _ | u_1
  · refine kx hC hSW hB _ lkC_ST rfl (x_ST_needPlacement htl σ π x0 hq_1) allw_ok mf_ST_needPlacement kw_513 ks_11 kw_511 ⟨rfl, rfl, Nat.le_of_ble_eq_true rfl, Nat.le_of_ble_eq_true rfl⟩ rfl rfl hl.1 (Nat.le_of_ble_eq_true rfl) d_ST_joined_2 ⟨Nat.le_of_ble_eq_true rfl, Nat.le_of_ble_eq_true rfl⟩ (fun q ce H locs hB h1 h2 h3 => ?_)
    exact tx_out hC hB (by rw [hex]; intro x hx; cases hx) h1 h2 h3 (Nat.le_of_ble_eq_true rfl) (Nat.le_of_ble_eq_true rfl)
  rw [hq_1] at hR
  dsimp only at hR
  refine kV hC hB _ lkC_ST rfl (c_ST_needPlacement σ π x0 u_1 hq_1) allw_ok mf_ST_needPlacement kw_513 ks_11 kw_511 ⟨rfl, rfl, Nat.le_of_ble_eq_true rfl, Nat.le_of_ble_eq_true rfl⟩ rfl rfl hl.1 (Nat.le_of_ble_eq_true rfl) d_ST_joined_2 ⟨Nat.le_of_ble_eq_true rfl, Nat.le_of_ble_eq_true rfl⟩ (roK fun H locs hB => ?_)
  refine lv_aload_n hx hb d_ST_joined_5 rfl (lv_at hl 0 rfl) ?_
  refine lv_iload_n hx hb d_ST_joined_6 rfl (lv_at hl 2 rfl) ?_
  rcases hq_2 : m_ST_needName σ x1 with _ | u_2
  · refine kx hC hSW hB _ lkC_ST rfl (x_ST_needName htl σ π x1 hq_2) allw_ok mf_ST_needName kw_560 ks_13 kw_558 ⟨rfl, rfl, Nat.le_of_ble_eq_true rfl, Nat.le_of_ble_eq_true rfl⟩ rfl rfl hl.1 (Nat.le_of_ble_eq_true rfl) d_ST_joined_7 ⟨Nat.le_of_ble_eq_true rfl, Nat.le_of_ble_eq_true rfl⟩ (fun q ce H locs hB h1 h2 h3 => ?_)
    exact tx_out hC hB (by rw [hex]; intro x hx; cases hx) h1 h2 h3 (Nat.le_of_ble_eq_true rfl) (Nat.le_of_ble_eq_true rfl)
  rw [hq_2] at hR
  dsimp only at hR
  refine kV hC hB _ lkC_ST rfl (c_ST_needName σ π x1 u_2 hq_2) allw_ok mf_ST_needName kw_560 ks_13 kw_558 ⟨rfl, rfl, Nat.le_of_ble_eq_true rfl, Nat.le_of_ble_eq_true rfl⟩ rfl rfl hl.1 (Nat.le_of_ble_eq_true rfl) d_ST_joined_7 ⟨Nat.le_of_ble_eq_true rfl, Nat.le_of_ble_eq_true rfl⟩ (roK fun H locs hB => ?_)
  refine lv_aload_n hx hb d_ST_joined_10 rfl (lv_at hl 0 rfl) ?_
  refine gt hC hB _ lkC_ST rfl i_ST 1 (by decide) rfl kw_257 rfl d_ST_joined_11 ?_
  refine lv_iload_n hx hb d_ST_joined_14 rfl (lv_at hl 1 rfl) ?_
  refine lv_iload_n hx hb d_ST_joined_15 rfl (lv_at hl 2 rfl) ?_
  refine kV hC hB _ lkC_Sheets rfl (c_Sheets_jointOf σ π x0 x1) allw_ok mf_Sheets_jointOf kw_539 kw_540 kw_576 ⟨rfl, rfl, Nat.le_of_ble_eq_true rfl, Nat.le_of_ble_eq_true rfl⟩ rfl rfl hl.1 (Nat.le_of_ble_eq_true rfl) d_ST_joined_16 ⟨Nat.le_of_ble_eq_true rfl, Nat.le_of_ble_eq_true rfl⟩ (roK fun H locs hB => ?_)
  cases hR

set_option maxHeartbeats 400000 in
set_option maxRecDepth 100000 in
theorem c_ST_part (σ : SC) (π : PJ) (hπ : RJ π σ) (x0 : Int32) (x1 : Int32) (RES : Int32 × SC) (hR : m_ST_part σ x0 x1 = some RES) : CM l y_ST_part b_ST_part 4 (some .int) { frames := 5, cells := 3, slots := 12, locals := 110 } D (tyL cI cL cQ) N0 N0 [.ref (G 0 0), .int x0, .int x1] (wsC G cI cL cQ σ π rest) (some (.int RES.1)) (pwC G cI cL cQ RES.2 rest) 3 12 := by
  obtain ⟨RV, RS⟩ := RES
  dsimp only
  refine met_of (own := R_ST) (by decide) rfl nwl_ok ?_
  intro p e s m below meth c hC hin hB
  have hx := hC.1
  have hb := hC.2.1
  have hl := lv_entry ([.ref (G 0 0), .int x0, .int x1]) (n := 4) (Nat.le_of_ble_eq_true rfl)
  rw [lg_entry_eq]
  generalize (lg_sl ([.ref (G 0 0), .int x0, .int x1]) ++ List.replicate (4 - (lg_sl ([.ref (G 0 0), .int x0, .int x1])).length) Slot.unset).toArray = ls at hl ⊢
  have hl : lv_has ls 4 [(0, .ref (G 0 0)), (1, .int x0), (2, .int x1)] := hl
  rw [m_ST_part] at hR
  refine lv_iload_n hx hb d_ST_part_0 rfl (lv_at hl 1 rfl) ?_
  refine lv_if_lt (tgt := 21) hx hb d_ST_part_1 (by decide) (fun c_1 => ?_) (fun c_1 => ?_)
  · rw [if_pos c_1] at hR
    cases hR
  · rw [if_neg c_1] at hR
    refine lv_iload_n hx hb d_ST_part_4 rfl (lv_at hl 1 rfl) ?_
    refine lv_bipush (v := 26) hx hb d_ST_part_5 (by decide) ?_
    refine lv_icmp_ge (tgt := 21) hx hb d_ST_part_7 (by decide) (fun c_2 => ?_) (fun c_2 => ?_)
    · rw [if_pos c_2] at hR
      cases hR
    · rw [if_neg c_2] at hR
      refine lv_iload_n hx hb d_ST_part_10 rfl (lv_at hl 2 rfl) ?_
      refine lv_iconst (v := 1) hx hb d_ST_part_11 (by decide) ?_
      refine lv_icmp_lt (tgt := 21) hx hb d_ST_part_12 (by decide) (fun c_3 => ?_) (fun c_3 => ?_)
      · rw [if_pos c_3] at hR
        cases hR
      · rw [if_neg c_3] at hR
        refine lv_iload_n hx hb d_ST_part_15 rfl (lv_at hl 2 rfl) ?_
        refine lv_bipush (v := 8) hx hb d_ST_part_16 (by decide) ?_
        refine lv_icmp_le (tgt := 31) hx hb d_ST_part_18 (by decide) (fun c_4 => ?_) (fun c_4 => ?_)
        · rw [if_pos c_4] at hR
          refine lv_aload_n hx hb d_ST_part_31 rfl (lv_at hl 0 rfl) ?_
          refine gt hC hB _ lkC_ST rfl i_ST 3 (by decide) rfl kw_259 rfl d_ST_part_32 ?_
          refine kV hC hB _ lkC_Parts rfl (c_Parts_partsLeft σ π) allw_ok mf_Parts_partsLeft kw_610 kw_611 kw_609 ⟨rfl, rfl, Nat.le_of_ble_eq_true rfl, Nat.le_of_ble_eq_true rfl⟩ rfl rfl hl.1 (Nat.le_of_ble_eq_true rfl) d_ST_part_35 ⟨Nat.le_of_ble_eq_true rfl, Nat.le_of_ble_eq_true rfl⟩ (roK fun H locs hB => ?_)
          refine lv_iconst (v := 1) hx hb d_ST_part_38 (by decide) ?_
          refine lv_icmp_ge (tgt := 44) hx hb d_ST_part_39 (by decide) (fun c_5 => ?_) (fun c_5 => ?_)
          · rw [if_pos c_5] at hR
            refine lv_aload_n hx hb d_ST_part_44 rfl (lv_at hl 0 rfl) ?_
            refine gt hC hB _ lkC_ST rfl i_ST 3 (by decide) rfl kw_259 rfl d_ST_part_45 ?_
            refine lv_iload_n hx hb d_ST_part_48 rfl (lv_at hl 1 rfl) ?_
            refine lv_iload_n hx hb d_ST_part_49 rfl (lv_at hl 2 rfl) ?_
            refine kV hC hB _ lkC_Parts rfl (c_Parts_addPart σ π hπ x0 x1) allw_ok mf_Parts_addPart kw_615 kw_616 kw_614 ⟨rfl, rfl, Nat.le_of_ble_eq_true rfl, Nat.le_of_ble_eq_true rfl⟩ rfl rfl hl.1 (Nat.le_of_ble_eq_true rfl) d_ST_part_50 ⟨Nat.le_of_ble_eq_true rfl, Nat.le_of_ble_eq_true rfl⟩ (fun H locs w hw hB => ?_)
            obtain ⟨π, hπ, rfl⟩ := hw
            refine lv_istore_n (lv' := [(3, .int ((m_Parts_addPart σ x0 x1).1)), (0, .ref (G 0 0)), (1, .int x0), (2, .int x1)]) hx hb d_ST_part_53 rfl hl (by decide) rfl (fun ls hl => ?_)
            refine lv_aload_n hx hb d_ST_part_54 rfl (lv_at hl 1 rfl) ?_
            refine gt hC hB _ lkC_ST rfl i_ST 0 (by decide) rfl kw_256 rfl d_ST_part_55 ?_
            refine kV hC hB _ lkC_Journal rfl (c_Journal_keep ((m_Parts_addPart σ x0 x1).2) π hπ) allw_ok mf_Journal_keep kw_329 kw_330 kw_328 ⟨rfl, rfl, Nat.le_of_ble_eq_true rfl, Nat.le_of_ble_eq_true rfl⟩ rfl rfl hl.1 (Nat.le_of_ble_eq_true rfl) d_ST_part_58 ⟨Nat.le_of_ble_eq_true rfl, Nat.le_of_ble_eq_true rfl⟩ (fun H locs w hw hB => ?_)
            obtain ⟨π, hπ, rfl⟩ := hw
            refine lv_iload_n hx hb d_ST_part_61 rfl (lv_at hl 0 rfl) ?_
            obtain ⟨rfl, rfl⟩ := Prod.mk.inj (Option.some.inj hR)
            refine W.widen (k := 3) (n := 12) (Nat.le_of_ble_eq_true rfl) (Nat.le_of_ble_eq_true rfl) ?_
            exact ri hC hB ⟨π, hπ, rfl⟩ d_ST_part_62
          · rw [if_neg c_5] at hR
            refine lv_iconst (v := (-1)) hx hb d_ST_part_42 (by decide) ?_
            obtain ⟨rfl, rfl⟩ := Prod.mk.inj (Option.some.inj hR)
            refine W.widen (k := 3) (n := 12) (Nat.le_of_ble_eq_true rfl) (Nat.le_of_ble_eq_true rfl) ?_
            exact ri hC hB ⟨π, hπ, rfl⟩ d_ST_part_43
        · rw [if_neg c_4] at hR
          cases hR

set_option maxHeartbeats 400000 in
set_option maxRecDepth 100000 in
theorem x_ST_part (htl : l.stackTraces = false) (σ : SC) (π : PJ) (x0 : Int32) (x1 : Int32) (hR : m_ST_part σ x0 x1 = none) : MX l y_ST_part b_ST_part 4 (some .int) { frames := 6, cells := 1, slots := 6, locals := 110 } D classes (tyL cI cL cQ) NWL ALLW N0 N1 [.ref (G 0 0), .int x0, .int x1] (wsC G cI cL cQ σ π rest) "java/lang/IllegalArgumentException" 1 6 := by
  refine mx_of (own := R_ST) (by decide) rfl nwl_ok ?_
  intro p e s m below meth c hC hex hSW hB
  have hB0 := hB
  have hx := hC.1
  have hb := hC.2.1
  have hl := lv_entry ([.ref (G 0 0), .int x0, .int x1]) (n := 4) (Nat.le_of_ble_eq_true rfl)
  rw [lg_entry_eq]
  generalize (lg_sl ([.ref (G 0 0), .int x0, .int x1]) ++ List.replicate (4 - (lg_sl ([.ref (G 0 0), .int x0, .int x1])).length) Slot.unset).toArray = ls at hl ⊢
  have hl : lv_has ls 4 [(0, .ref (G 0 0)), (1, .int x0), (2, .int x1)] := hl
  rw [m_ST_part] at hR
  refine lv_iload_n hx hb d_ST_part_0 rfl (lv_at hl 1 rfl) ?_
  refine lv_if_lt (tgt := 21) hx hb d_ST_part_1 (by decide) (fun c_1 => ?_) (fun c_1 => ?_)
  · rw [if_pos c_1] at hR
    obtain ⟨sa, hsa⟩ := hSW.2.1 _ (List.mem_of_getElem? (i := 3) rfl)
    exact tx_newS (names := ["java/lang/RuntimeException", "java/lang/Exception"]) htl hC hB0 hB (by decide) (by decide) (ownIO 135 _ hC.2.2.2.2.2.1 hSW own_IAE) kw_593 kw_16 hsa hl.1 d_ST_part_21 d_ST_part_24 d_ST_part_25 d_ST_part_27 d_ST_part_30 hex (Nat.le_of_ble_eq_true rfl) (Nat.le_of_ble_eq_true rfl) (Nat.le_of_ble_eq_true rfl) (Nat.le_of_ble_eq_true rfl) (Nat.le_of_ble_eq_true rfl) (Nat.le_of_ble_eq_true rfl)
  · rw [if_neg c_1] at hR
    refine lv_iload_n hx hb d_ST_part_4 rfl (lv_at hl 1 rfl) ?_
    refine lv_bipush (v := 26) hx hb d_ST_part_5 (by decide) ?_
    refine lv_icmp_ge (tgt := 21) hx hb d_ST_part_7 (by decide) (fun c_2 => ?_) (fun c_2 => ?_)
    · rw [if_pos c_2] at hR
      obtain ⟨sa, hsa⟩ := hSW.2.1 _ (List.mem_of_getElem? (i := 3) rfl)
      exact tx_newS (names := ["java/lang/RuntimeException", "java/lang/Exception"]) htl hC hB0 hB (by decide) (by decide) (ownIO 135 _ hC.2.2.2.2.2.1 hSW own_IAE) kw_593 kw_16 hsa hl.1 d_ST_part_21 d_ST_part_24 d_ST_part_25 d_ST_part_27 d_ST_part_30 hex (Nat.le_of_ble_eq_true rfl) (Nat.le_of_ble_eq_true rfl) (Nat.le_of_ble_eq_true rfl) (Nat.le_of_ble_eq_true rfl) (Nat.le_of_ble_eq_true rfl) (Nat.le_of_ble_eq_true rfl)
    · rw [if_neg c_2] at hR
      refine lv_iload_n hx hb d_ST_part_10 rfl (lv_at hl 2 rfl) ?_
      refine lv_iconst (v := 1) hx hb d_ST_part_11 (by decide) ?_
      refine lv_icmp_lt (tgt := 21) hx hb d_ST_part_12 (by decide) (fun c_3 => ?_) (fun c_3 => ?_)
      · rw [if_pos c_3] at hR
        obtain ⟨sa, hsa⟩ := hSW.2.1 _ (List.mem_of_getElem? (i := 3) rfl)
        exact tx_newS (names := ["java/lang/RuntimeException", "java/lang/Exception"]) htl hC hB0 hB (by decide) (by decide) (ownIO 135 _ hC.2.2.2.2.2.1 hSW own_IAE) kw_593 kw_16 hsa hl.1 d_ST_part_21 d_ST_part_24 d_ST_part_25 d_ST_part_27 d_ST_part_30 hex (Nat.le_of_ble_eq_true rfl) (Nat.le_of_ble_eq_true rfl) (Nat.le_of_ble_eq_true rfl) (Nat.le_of_ble_eq_true rfl) (Nat.le_of_ble_eq_true rfl) (Nat.le_of_ble_eq_true rfl)
      · rw [if_neg c_3] at hR
        refine lv_iload_n hx hb d_ST_part_15 rfl (lv_at hl 2 rfl) ?_
        refine lv_bipush (v := 8) hx hb d_ST_part_16 (by decide) ?_
        refine lv_icmp_le (tgt := 31) hx hb d_ST_part_18 (by decide) (fun c_4 => ?_) (fun c_4 => ?_)
        · rw [if_pos c_4] at hR
          refine lv_aload_n hx hb d_ST_part_31 rfl (lv_at hl 0 rfl) ?_
          refine gt hC hB _ lkC_ST rfl i_ST 3 (by decide) rfl kw_259 rfl d_ST_part_32 ?_
          refine kV hC hB _ lkC_Parts rfl (c_Parts_partsLeft σ π) allw_ok mf_Parts_partsLeft kw_610 kw_611 kw_609 ⟨rfl, rfl, Nat.le_of_ble_eq_true rfl, Nat.le_of_ble_eq_true rfl⟩ rfl rfl hl.1 (Nat.le_of_ble_eq_true rfl) d_ST_part_35 ⟨Nat.le_of_ble_eq_true rfl, Nat.le_of_ble_eq_true rfl⟩ (roK fun H locs hB => ?_)
          refine lv_iconst (v := 1) hx hb d_ST_part_38 (by decide) ?_
          refine lv_icmp_ge (tgt := 44) hx hb d_ST_part_39 (by decide) (fun c_5 => ?_) (fun c_5 => ?_)
          · rw [if_pos c_5] at hR
            refine lv_aload_n hx hb d_ST_part_44 rfl (lv_at hl 0 rfl) ?_
            refine gt hC hB _ lkC_ST rfl i_ST 3 (by decide) rfl kw_259 rfl d_ST_part_45 ?_
            refine lv_iload_n hx hb d_ST_part_48 rfl (lv_at hl 1 rfl) ?_
            refine lv_iload_n hx hb d_ST_part_49 rfl (lv_at hl 2 rfl) ?_
            refine absurd hR ?_
            repeat' (first | with_reducible exact nn_some _ | with_reducible refine nn_ite ?_ ?_)
          · rw [if_neg c_5] at hR
            refine lv_iconst (v := (-1)) hx hb d_ST_part_42 (by decide) ?_
            cases hR
        · rw [if_neg c_4] at hR
          obtain ⟨sa, hsa⟩ := hSW.2.1 _ (List.mem_of_getElem? (i := 3) rfl)
          exact tx_newS (names := ["java/lang/RuntimeException", "java/lang/Exception"]) htl hC hB0 hB (by decide) (by decide) (ownIO 135 _ hC.2.2.2.2.2.1 hSW own_IAE) kw_593 kw_16 hsa hl.1 d_ST_part_21 d_ST_part_24 d_ST_part_25 d_ST_part_27 d_ST_part_30 hex (Nat.le_of_ble_eq_true rfl) (Nat.le_of_ble_eq_true rfl) (Nat.le_of_ble_eq_true rfl) (Nat.le_of_ble_eq_true rfl) (Nat.le_of_ble_eq_true rfl) (Nat.le_of_ble_eq_true rfl)

set_option maxHeartbeats 400000 in
set_option maxRecDepth 100000 in
theorem c_ST_gate (σ : SC) (π : PJ) (hπ : RJ π σ) (x0 : Int32) (x1 : Int32) (x2 : Int32) (RES : Bool × SC) (hR : m_ST_gate σ x0 x1 x2 = some RES) : CM l y_ST_gate b_ST_gate 4 (some .boolean) { frames := 5, cells := 3, slots := 12, locals := 111 } D (tyL cI cL cQ) N0 N0 [.ref (G 0 0), .int x0, .int x1, .int x2] (wsC G cI cL cQ σ π rest) (some (.int (bi RES.1))) (pwC G cI cL cQ RES.2 rest) 3 12 := by
  obtain ⟨RV, RS⟩ := RES
  dsimp only
  refine met_of (own := R_ST) (by decide) rfl nwl_ok ?_
  intro p e s m below meth c hC hin hB
  have hx := hC.1
  have hb := hC.2.1
  have hl := lv_entry ([.ref (G 0 0), .int x0, .int x1, .int x2]) (n := 4) (Nat.le_of_ble_eq_true rfl)
  rw [lg_entry_eq]
  generalize (lg_sl ([.ref (G 0 0), .int x0, .int x1, .int x2]) ++ List.replicate (4 - (lg_sl ([.ref (G 0 0), .int x0, .int x1, .int x2])).length) Slot.unset).toArray = ls at hl ⊢
  have hl : lv_has ls 4 [(0, .ref (G 0 0)), (1, .int x0), (2, .int x1), (3, .int x2)] := hl
  rw [m_ST_gate] at hR
  refine lv_aload_n hx hb d_ST_gate_0 rfl (lv_at hl 0 rfl) ?_
  refine lv_iload_n hx hb d_ST_gate_1 rfl (lv_at hl 1 rfl) ?_
  obtain ⟨u_1, hq_1⟩ : ∃ z, m_ST_needSheet σ x0 = some z := by
    cases hz : m_ST_needSheet σ x0 with
    | none => rw [hz] at hR; cases hR
    | some z => exact ⟨z, rfl⟩
  rw [hq_1] at hR
  dsimp only at hR
  refine kV hC hB _ lkC_ST rfl (c_ST_needSheet σ π x0 u_1 hq_1) allw_ok mf_ST_needSheet kw_389 ks_5 kw_387 ⟨rfl, rfl, Nat.le_of_ble_eq_true rfl, Nat.le_of_ble_eq_true rfl⟩ rfl rfl hl.1 (Nat.le_of_ble_eq_true rfl) d_ST_gate_2 ⟨Nat.le_of_ble_eq_true rfl, Nat.le_of_ble_eq_true rfl⟩ (roK fun H locs hB => ?_)
  refine lv_aload_n hx hb d_ST_gate_5 rfl (lv_at hl 0 rfl) ?_
  refine lv_iload_n hx hb d_ST_gate_6 rfl (lv_at hl 2 rfl) ?_
  obtain ⟨u_2, hq_2⟩ : ∃ z, m_ST_needPart σ x1 = some z := by
    cases hz : m_ST_needPart σ x1 with
    | none => rw [hz] at hR; cases hR
    | some z => exact ⟨z, rfl⟩
  rw [hq_2] at hR
  dsimp only at hR
  refine kV hC hB _ lkC_ST rfl (c_ST_needPart σ π x1 u_2 hq_2) allw_ok mf_ST_needPart kw_628 ks_14 kw_626 ⟨rfl, rfl, Nat.le_of_ble_eq_true rfl, Nat.le_of_ble_eq_true rfl⟩ rfl rfl hl.1 (Nat.le_of_ble_eq_true rfl) d_ST_gate_7 ⟨Nat.le_of_ble_eq_true rfl, Nat.le_of_ble_eq_true rfl⟩ (roK fun H locs hB => ?_)
  refine lv_aload_n hx hb d_ST_gate_10 rfl (lv_at hl 0 rfl) ?_
  refine lv_iload_n hx hb d_ST_gate_11 rfl (lv_at hl 2 rfl) ?_
  refine lv_iload_n hx hb d_ST_gate_12 rfl (lv_at hl 3 rfl) ?_
  obtain ⟨u_3, hq_3⟩ : ∃ z, m_ST_needGate σ x1 x2 = some z := by
    cases hz : m_ST_needGate σ x1 x2 with
    | none => rw [hz] at hR; cases hR
    | some z => exact ⟨z, rfl⟩
  rw [hq_3] at hR
  dsimp only at hR
  refine kV hC hB _ lkC_ST rfl (c_ST_needGate σ π x1 x2 u_3 hq_3) allw_ok mf_ST_needGate kw_637 ks_15 kw_635 ⟨rfl, rfl, Nat.le_of_ble_eq_true rfl, Nat.le_of_ble_eq_true rfl⟩ rfl rfl hl.1 (Nat.le_of_ble_eq_true rfl) d_ST_gate_13 ⟨Nat.le_of_ble_eq_true rfl, Nat.le_of_ble_eq_true rfl⟩ (roK fun H locs hB => ?_)
  refine lv_aload_n hx hb d_ST_gate_16 rfl (lv_at hl 0 rfl) ?_
  refine gt hC hB _ lkC_ST rfl i_ST 3 (by decide) rfl kw_259 rfl d_ST_gate_17 ?_
  refine lv_iload_n hx hb d_ST_gate_20 rfl (lv_at hl 2 rfl) ?_
  refine lv_iload_n hx hb d_ST_gate_21 rfl (lv_at hl 3 rfl) ?_
  refine kV hC hB _ lkC_Parts rfl (c_Parts_sheetOfGate σ π x1 x2) allw_ok mf_Parts_sheetOfGate kw_645 kw_646 kw_644 ⟨rfl, rfl, Nat.le_of_ble_eq_true rfl, Nat.le_of_ble_eq_true rfl⟩ rfl rfl hl.1 (Nat.le_of_ble_eq_true rfl) d_ST_gate_22 ⟨Nat.le_of_ble_eq_true rfl, Nat.le_of_ble_eq_true rfl⟩ (roK fun H locs hB => ?_)
  refine lv_iconst (v := (-1)) hx hb d_ST_gate_25 (by decide) ?_
  refine lv_icmp_ne (tgt := 42) hx hb d_ST_gate_26 (by decide) (fun c_4 => ?_) (fun c_4 => ?_)
  · rw [if_neg c_4] at hR
    refine lv_iconst (v := 0) hx hb d_ST_gate_42 (by decide) ?_
    obtain ⟨rfl, rfl⟩ := Prod.mk.inj (Option.some.inj hR)
    refine W.widen (k := 3) (n := 12) (Nat.le_of_ble_eq_true rfl) (Nat.le_of_ble_eq_true rfl) ?_
    exact rz (b := false) hC hB ⟨π, hπ, rfl⟩ d_ST_gate_43
  · rw [if_pos c_4] at hR
    refine lv_aload_n hx hb d_ST_gate_29 rfl (lv_at hl 0 rfl) ?_
    refine gt hC hB _ lkC_ST rfl i_ST 3 (by decide) rfl kw_259 rfl d_ST_gate_30 ?_
    refine lv_iload_n hx hb d_ST_gate_33 rfl (lv_at hl 1 rfl) ?_
    refine kV hC hB _ lkC_Parts rfl (c_Parts_gatesOn σ π x0) allw_ok mf_Parts_gatesOn kw_649 kw_650 kw_648 ⟨rfl, rfl, Nat.le_of_ble_eq_true rfl, Nat.le_of_ble_eq_true rfl⟩ rfl rfl hl.1 (Nat.le_of_ble_eq_true rfl) d_ST_gate_34 ⟨Nat.le_of_ble_eq_true rfl, Nat.le_of_ble_eq_true rfl⟩ (roK fun H locs hB => ?_)
    refine lv_bipush (v := 20) hx hb d_ST_gate_37 (by decide) ?_
    refine lv_icmp_lt (tgt := 44) hx hb d_ST_gate_39 (by decide) (fun c_5 => ?_) (fun c_5 => ?_)
    · rw [if_pos c_5] at hR
      refine lv_aload_n hx hb d_ST_gate_44 rfl (lv_at hl 0 rfl) ?_
      refine gt hC hB _ lkC_ST rfl i_ST 3 (by decide) rfl kw_259 rfl d_ST_gate_45 ?_
      refine lv_iload_n hx hb d_ST_gate_48 rfl (lv_at hl 1 rfl) ?_
      refine lv_iload_n hx hb d_ST_gate_49 rfl (lv_at hl 2 rfl) ?_
      refine lv_iload_n hx hb d_ST_gate_50 rfl (lv_at hl 3 rfl) ?_
      refine kV hC hB _ lkC_Parts rfl (c_Parts_layGate σ π hπ x0 x1 x2) allw_ok mf_Parts_layGate kw_653 kw_654 kw_652 ⟨rfl, rfl, Nat.le_of_ble_eq_true rfl, Nat.le_of_ble_eq_true rfl⟩ rfl rfl hl.1 (Nat.le_of_ble_eq_true rfl) d_ST_gate_51 ⟨Nat.le_of_ble_eq_true rfl, Nat.le_of_ble_eq_true rfl⟩ (fun H locs w hw hB => ?_)
      obtain ⟨π, hπ, rfl⟩ := hw
      refine lv_aload_n hx hb d_ST_gate_54 rfl (lv_at hl 0 rfl) ?_
      refine gt hC hB _ lkC_ST rfl i_ST 0 (by decide) rfl kw_256 rfl d_ST_gate_55 ?_
      refine kV hC hB _ lkC_Journal rfl (c_Journal_keep (m_Parts_layGate σ x0 x1 x2) π hπ) allw_ok mf_Journal_keep kw_329 kw_330 kw_328 ⟨rfl, rfl, Nat.le_of_ble_eq_true rfl, Nat.le_of_ble_eq_true rfl⟩ rfl rfl hl.1 (Nat.le_of_ble_eq_true rfl) d_ST_gate_58 ⟨Nat.le_of_ble_eq_true rfl, Nat.le_of_ble_eq_true rfl⟩ (fun H locs w hw hB => ?_)
      obtain ⟨π, hπ, rfl⟩ := hw
      refine lv_iconst (v := 1) hx hb d_ST_gate_61 (by decide) ?_
      obtain ⟨rfl, rfl⟩ := Prod.mk.inj (Option.some.inj hR)
      refine W.widen (k := 3) (n := 12) (Nat.le_of_ble_eq_true rfl) (Nat.le_of_ble_eq_true rfl) ?_
      exact rz (b := true) hC hB ⟨π, hπ, rfl⟩ d_ST_gate_62
    · rw [if_neg c_5] at hR
      refine lv_iconst (v := 0) hx hb d_ST_gate_42 (by decide) ?_
      obtain ⟨rfl, rfl⟩ := Prod.mk.inj (Option.some.inj hR)
      refine W.widen (k := 3) (n := 12) (Nat.le_of_ble_eq_true rfl) (Nat.le_of_ble_eq_true rfl) ?_
      exact rz (b := false) hC hB ⟨π, hπ, rfl⟩ d_ST_gate_43

set_option maxHeartbeats 400000 in
set_option maxRecDepth 100000 in
theorem x_ST_gate (htl : l.stackTraces = false) (σ : SC) (π : PJ) (x0 : Int32) (x1 : Int32) (x2 : Int32) (hR : m_ST_gate σ x0 x1 x2 = none) : MX l y_ST_gate b_ST_gate 4 (some .boolean) { frames := 7, cells := 1, slots := 6, locals := 112 } D classes (tyL cI cL cQ) NWL ALLW N0 N1 [.ref (G 0 0), .int x0, .int x1, .int x2] (wsC G cI cL cQ σ π rest) "java/lang/IndexOutOfBoundsException" 1 6 := by
  refine mx_of (own := R_ST) (by decide) rfl nwl_ok ?_
  intro p e s m below meth c hC hex hSW hB
  have hB0 := hB
  have hx := hC.1
  have hb := hC.2.1
  have hl := lv_entry ([.ref (G 0 0), .int x0, .int x1, .int x2]) (n := 4) (Nat.le_of_ble_eq_true rfl)
  rw [lg_entry_eq]
  generalize (lg_sl ([.ref (G 0 0), .int x0, .int x1, .int x2]) ++ List.replicate (4 - (lg_sl ([.ref (G 0 0), .int x0, .int x1, .int x2])).length) Slot.unset).toArray = ls at hl ⊢
  have hl : lv_has ls 4 [(0, .ref (G 0 0)), (1, .int x0), (2, .int x1), (3, .int x2)] := hl
  rw [m_ST_gate] at hR
  refine lv_aload_n hx hb d_ST_gate_0 rfl (lv_at hl 0 rfl) ?_
  refine lv_iload_n hx hb d_ST_gate_1 rfl (lv_at hl 1 rfl) ?_
  rcases hq_1 : m_ST_needSheet σ x0 with _ | u_1
  · refine kx hC hSW hB _ lkC_ST rfl (x_ST_needSheet htl σ π x0 hq_1) allw_ok mf_ST_needSheet kw_389 ks_5 kw_387 ⟨rfl, rfl, Nat.le_of_ble_eq_true rfl, Nat.le_of_ble_eq_true rfl⟩ rfl rfl hl.1 (Nat.le_of_ble_eq_true rfl) d_ST_gate_2 ⟨Nat.le_of_ble_eq_true rfl, Nat.le_of_ble_eq_true rfl⟩ (fun q ce H locs hB h1 h2 h3 => ?_)
    exact tx_out hC hB (by rw [hex]; intro x hx; cases hx) h1 h2 h3 (Nat.le_of_ble_eq_true rfl) (Nat.le_of_ble_eq_true rfl)
  rw [hq_1] at hR
  dsimp only at hR
  refine kV hC hB _ lkC_ST rfl (c_ST_needSheet σ π x0 u_1 hq_1) allw_ok mf_ST_needSheet kw_389 ks_5 kw_387 ⟨rfl, rfl, Nat.le_of_ble_eq_true rfl, Nat.le_of_ble_eq_true rfl⟩ rfl rfl hl.1 (Nat.le_of_ble_eq_true rfl) d_ST_gate_2 ⟨Nat.le_of_ble_eq_true rfl, Nat.le_of_ble_eq_true rfl⟩ (roK fun H locs hB => ?_)
  refine lv_aload_n hx hb d_ST_gate_5 rfl (lv_at hl 0 rfl) ?_
  refine lv_iload_n hx hb d_ST_gate_6 rfl (lv_at hl 2 rfl) ?_
  rcases hq_2 : m_ST_needPart σ x1 with _ | u_2
  · refine kx hC hSW hB _ lkC_ST rfl (x_ST_needPart htl σ π x1 hq_2) allw_ok mf_ST_needPart kw_628 ks_14 kw_626 ⟨rfl, rfl, Nat.le_of_ble_eq_true rfl, Nat.le_of_ble_eq_true rfl⟩ rfl rfl hl.1 (Nat.le_of_ble_eq_true rfl) d_ST_gate_7 ⟨Nat.le_of_ble_eq_true rfl, Nat.le_of_ble_eq_true rfl⟩ (fun q ce H locs hB h1 h2 h3 => ?_)
    exact tx_out hC hB (by rw [hex]; intro x hx; cases hx) h1 h2 h3 (Nat.le_of_ble_eq_true rfl) (Nat.le_of_ble_eq_true rfl)
  rw [hq_2] at hR
  dsimp only at hR
  refine kV hC hB _ lkC_ST rfl (c_ST_needPart σ π x1 u_2 hq_2) allw_ok mf_ST_needPart kw_628 ks_14 kw_626 ⟨rfl, rfl, Nat.le_of_ble_eq_true rfl, Nat.le_of_ble_eq_true rfl⟩ rfl rfl hl.1 (Nat.le_of_ble_eq_true rfl) d_ST_gate_7 ⟨Nat.le_of_ble_eq_true rfl, Nat.le_of_ble_eq_true rfl⟩ (roK fun H locs hB => ?_)
  refine lv_aload_n hx hb d_ST_gate_10 rfl (lv_at hl 0 rfl) ?_
  refine lv_iload_n hx hb d_ST_gate_11 rfl (lv_at hl 2 rfl) ?_
  refine lv_iload_n hx hb d_ST_gate_12 rfl (lv_at hl 3 rfl) ?_
  rcases hq_3 : m_ST_needGate σ x1 x2 with _ | u_3
  · refine kx hC hSW hB _ lkC_ST rfl (x_ST_needGate htl σ π x1 x2 hq_3) allw_ok mf_ST_needGate kw_637 ks_15 kw_635 ⟨rfl, rfl, Nat.le_of_ble_eq_true rfl, Nat.le_of_ble_eq_true rfl⟩ rfl rfl hl.1 (Nat.le_of_ble_eq_true rfl) d_ST_gate_13 ⟨Nat.le_of_ble_eq_true rfl, Nat.le_of_ble_eq_true rfl⟩ (fun q ce H locs hB h1 h2 h3 => ?_)
    exact tx_out hC hB (by rw [hex]; intro x hx; cases hx) h1 h2 h3 (Nat.le_of_ble_eq_true rfl) (Nat.le_of_ble_eq_true rfl)
  rw [hq_3] at hR
  dsimp only at hR
  refine kV hC hB _ lkC_ST rfl (c_ST_needGate σ π x1 x2 u_3 hq_3) allw_ok mf_ST_needGate kw_637 ks_15 kw_635 ⟨rfl, rfl, Nat.le_of_ble_eq_true rfl, Nat.le_of_ble_eq_true rfl⟩ rfl rfl hl.1 (Nat.le_of_ble_eq_true rfl) d_ST_gate_13 ⟨Nat.le_of_ble_eq_true rfl, Nat.le_of_ble_eq_true rfl⟩ (roK fun H locs hB => ?_)
  refine lv_aload_n hx hb d_ST_gate_16 rfl (lv_at hl 0 rfl) ?_
  refine gt hC hB _ lkC_ST rfl i_ST 3 (by decide) rfl kw_259 rfl d_ST_gate_17 ?_
  refine lv_iload_n hx hb d_ST_gate_20 rfl (lv_at hl 2 rfl) ?_
  refine lv_iload_n hx hb d_ST_gate_21 rfl (lv_at hl 3 rfl) ?_
  refine kV hC hB _ lkC_Parts rfl (c_Parts_sheetOfGate σ π x1 x2) allw_ok mf_Parts_sheetOfGate kw_645 kw_646 kw_644 ⟨rfl, rfl, Nat.le_of_ble_eq_true rfl, Nat.le_of_ble_eq_true rfl⟩ rfl rfl hl.1 (Nat.le_of_ble_eq_true rfl) d_ST_gate_22 ⟨Nat.le_of_ble_eq_true rfl, Nat.le_of_ble_eq_true rfl⟩ (roK fun H locs hB => ?_)
  refine lv_iconst (v := (-1)) hx hb d_ST_gate_25 (by decide) ?_
  refine lv_icmp_ne (tgt := 42) hx hb d_ST_gate_26 (by decide) (fun c_4 => ?_) (fun c_4 => ?_)
  · rw [if_neg c_4] at hR
    refine lv_iconst (v := 0) hx hb d_ST_gate_42 (by decide) ?_
    cases hR
  · rw [if_pos c_4] at hR
    refine lv_aload_n hx hb d_ST_gate_29 rfl (lv_at hl 0 rfl) ?_
    refine gt hC hB _ lkC_ST rfl i_ST 3 (by decide) rfl kw_259 rfl d_ST_gate_30 ?_
    refine lv_iload_n hx hb d_ST_gate_33 rfl (lv_at hl 1 rfl) ?_
    refine kV hC hB _ lkC_Parts rfl (c_Parts_gatesOn σ π x0) allw_ok mf_Parts_gatesOn kw_649 kw_650 kw_648 ⟨rfl, rfl, Nat.le_of_ble_eq_true rfl, Nat.le_of_ble_eq_true rfl⟩ rfl rfl hl.1 (Nat.le_of_ble_eq_true rfl) d_ST_gate_34 ⟨Nat.le_of_ble_eq_true rfl, Nat.le_of_ble_eq_true rfl⟩ (roK fun H locs hB => ?_)
    refine lv_bipush (v := 20) hx hb d_ST_gate_37 (by decide) ?_
    refine lv_icmp_lt (tgt := 44) hx hb d_ST_gate_39 (by decide) (fun c_5 => ?_) (fun c_5 => ?_)
    · rw [if_pos c_5] at hR
      refine lv_aload_n hx hb d_ST_gate_44 rfl (lv_at hl 0 rfl) ?_
      refine gt hC hB _ lkC_ST rfl i_ST 3 (by decide) rfl kw_259 rfl d_ST_gate_45 ?_
      refine lv_iload_n hx hb d_ST_gate_48 rfl (lv_at hl 1 rfl) ?_
      refine lv_iload_n hx hb d_ST_gate_49 rfl (lv_at hl 2 rfl) ?_
      refine lv_iload_n hx hb d_ST_gate_50 rfl (lv_at hl 3 rfl) ?_
      refine absurd hR ?_
      repeat' (first | with_reducible exact nn_some _ | with_reducible refine nn_ite ?_ ?_)
    · rw [if_neg c_5] at hR
      refine lv_iconst (v := 0) hx hb d_ST_gate_42 (by decide) ?_
      cases hR

set_option maxHeartbeats 400000 in
set_option maxRecDepth 100000 in
theorem c_ST_rule (σ : SC) (π : PJ) (hπ : RJ π σ) (x0 : Int32) (RES : Bool × SC) (hR : m_ST_rule σ x0 = some RES) : CM l y_ST_rule b_ST_rule 2 (some .boolean) { frames := 4, cells := 1, slots := 4, locals := 87 } D (tyL cI cL cQ) N0 N0 [.ref (G 0 0), .int x0] (wsC G cI cL cQ σ π rest) (some (.int (bi RES.1))) (pwC G cI cL cQ RES.2 rest) 1 4 := by
  obtain ⟨RV, RS⟩ := RES
  dsimp only
  refine met_of (own := R_ST) (by decide) rfl nwl_ok ?_
  intro p e s m below meth c hC hin hB
  have hx := hC.1
  have hb := hC.2.1
  have hl := lv_entry ([.ref (G 0 0), .int x0]) (n := 2) (Nat.le_of_ble_eq_true rfl)
  rw [lg_entry_eq]
  generalize (lg_sl ([.ref (G 0 0), .int x0]) ++ List.replicate (2 - (lg_sl ([.ref (G 0 0), .int x0])).length) Slot.unset).toArray = ls at hl ⊢
  have hl : lv_has ls 2 [(0, .ref (G 0 0)), (1, .int x0)] := hl
  rw [m_ST_rule] at hR
  refine lv_iload_n hx hb d_ST_rule_0 rfl (lv_at hl 1 rfl) ?_
  refine lv_if_eq (tgt := 19) hx hb d_ST_rule_1 (by decide) (fun c_1 => ?_) (fun c_1 => ?_)
  · rw [if_pos c_1] at hR
    refine lv_aload_n hx hb d_ST_rule_19 rfl (lv_at hl 0 rfl) ?_
    refine gt hC hB _ lkC_ST rfl i_ST 5 (by decide) rfl kw_261 rfl d_ST_rule_20 ?_
    refine lv_iconst (v := 0) hx hb d_ST_rule_23 (by decide) ?_
    refine kV hC hB _ (lkC_row (by decide)) rfl (c_Row_at 18 (by decide) σ π 0) allw_ok mf_Row_at kw_233 kw_234 kw_713 ⟨rfl, rfl, Nat.le_of_ble_eq_true rfl, Nat.le_of_ble_eq_true rfl⟩ rfl rfl hl.1 (Nat.le_of_ble_eq_true rfl) d_ST_rule_24 ⟨Nat.le_of_ble_eq_true rfl, Nat.le_of_ble_eq_true rfl⟩ (roK fun H locs hB => ?_)
    refine lv_iload_n hx hb d_ST_rule_27 rfl (lv_at hl 1 rfl) ?_
    refine lv_icmp_ne (tgt := 33) hx hb d_ST_rule_28 (by decide) (fun c_2 => ?_) (fun c_2 => ?_)
    · rw [if_neg c_2] at hR
      refine lv_aload_n hx hb d_ST_rule_33 rfl (lv_at hl 0 rfl) ?_
      refine gt hC hB _ lkC_ST rfl i_ST 5 (by decide) rfl kw_261 rfl d_ST_rule_34 ?_
      refine lv_iconst (v := 0) hx hb d_ST_rule_37 (by decide) ?_
      refine lv_iload_n hx hb d_ST_rule_38 rfl (lv_at hl 1 rfl) ?_
      refine lv_i2l hx hb d_ST_rule_39 rfl ?_
      refine kV hC hB _ (lkC_row (by decide)) rfl (c_Row_set 18 (by decide) σ π hπ 0 x0.toInt64) allw_ok mf_Row_set kw_292 kw_293 kw_714 ⟨rfl, rfl, Nat.le_of_ble_eq_true rfl, Nat.le_of_ble_eq_true rfl⟩ rfl rfl hl.1 (Nat.le_of_ble_eq_true rfl) d_ST_rule_40 ⟨Nat.le_of_ble_eq_true rfl, Nat.le_of_ble_eq_true rfl⟩ (fun H locs w hw hB => ?_)
      obtain ⟨π, hπ, rfl⟩ := hw
      refine lv_aload_n hx hb d_ST_rule_43 rfl (lv_at hl 0 rfl) ?_
      refine gt hC hB _ lkC_ST rfl i_ST 0 (by decide) rfl kw_256 rfl d_ST_rule_44 ?_
      refine kV hC hB _ lkC_Journal rfl (c_Journal_keep (m_Row_set σ 18 0 x0.toInt64) π hπ) allw_ok mf_Journal_keep kw_329 kw_330 kw_328 ⟨rfl, rfl, Nat.le_of_ble_eq_true rfl, Nat.le_of_ble_eq_true rfl⟩ rfl rfl hl.1 (Nat.le_of_ble_eq_true rfl) d_ST_rule_47 ⟨Nat.le_of_ble_eq_true rfl, Nat.le_of_ble_eq_true rfl⟩ (fun H locs w hw hB => ?_)
      obtain ⟨π, hπ, rfl⟩ := hw
      refine lv_iconst (v := 1) hx hb d_ST_rule_50 (by decide) ?_
      obtain ⟨rfl, rfl⟩ := Prod.mk.inj (Option.some.inj hR)
      refine W.widen (k := 1) (n := 4) (Nat.le_of_ble_eq_true rfl) (Nat.le_of_ble_eq_true rfl) ?_
      exact rz (b := true) hC hB ⟨π, hπ, rfl⟩ d_ST_rule_51
    · rw [if_pos c_2] at hR
      refine lv_iconst (v := 0) hx hb d_ST_rule_31 (by decide) ?_
      obtain ⟨rfl, rfl⟩ := Prod.mk.inj (Option.some.inj hR)
      refine W.widen (k := 1) (n := 4) (Nat.le_of_ble_eq_true rfl) (Nat.le_of_ble_eq_true rfl) ?_
      exact rz (b := false) hC hB ⟨π, hπ, rfl⟩ d_ST_rule_32
  · rw [if_neg c_1] at hR
    refine lv_iload_n hx hb d_ST_rule_4 rfl (lv_at hl 1 rfl) ?_
    refine lv_iconst (v := 1) hx hb d_ST_rule_5 (by decide) ?_
    refine lv_icmp_eq (tgt := 19) hx hb d_ST_rule_6 (by decide) (fun c_3 => ?_) (fun c_3 => ?_)
    · rw [if_pos c_3] at hR
      refine lv_aload_n hx hb d_ST_rule_19 rfl (lv_at hl 0 rfl) ?_
      refine gt hC hB _ lkC_ST rfl i_ST 5 (by decide) rfl kw_261 rfl d_ST_rule_20 ?_
      refine lv_iconst (v := 0) hx hb d_ST_rule_23 (by decide) ?_
      refine kV hC hB _ (lkC_row (by decide)) rfl (c_Row_at 18 (by decide) σ π 0) allw_ok mf_Row_at kw_233 kw_234 kw_713 ⟨rfl, rfl, Nat.le_of_ble_eq_true rfl, Nat.le_of_ble_eq_true rfl⟩ rfl rfl hl.1 (Nat.le_of_ble_eq_true rfl) d_ST_rule_24 ⟨Nat.le_of_ble_eq_true rfl, Nat.le_of_ble_eq_true rfl⟩ (roK fun H locs hB => ?_)
      refine lv_iload_n hx hb d_ST_rule_27 rfl (lv_at hl 1 rfl) ?_
      refine lv_icmp_ne (tgt := 33) hx hb d_ST_rule_28 (by decide) (fun c_4 => ?_) (fun c_4 => ?_)
      · rw [if_neg c_4] at hR
        refine lv_aload_n hx hb d_ST_rule_33 rfl (lv_at hl 0 rfl) ?_
        refine gt hC hB _ lkC_ST rfl i_ST 5 (by decide) rfl kw_261 rfl d_ST_rule_34 ?_
        refine lv_iconst (v := 0) hx hb d_ST_rule_37 (by decide) ?_
        refine lv_iload_n hx hb d_ST_rule_38 rfl (lv_at hl 1 rfl) ?_
        refine lv_i2l hx hb d_ST_rule_39 rfl ?_
        refine kV hC hB _ (lkC_row (by decide)) rfl (c_Row_set 18 (by decide) σ π hπ 0 x0.toInt64) allw_ok mf_Row_set kw_292 kw_293 kw_714 ⟨rfl, rfl, Nat.le_of_ble_eq_true rfl, Nat.le_of_ble_eq_true rfl⟩ rfl rfl hl.1 (Nat.le_of_ble_eq_true rfl) d_ST_rule_40 ⟨Nat.le_of_ble_eq_true rfl, Nat.le_of_ble_eq_true rfl⟩ (fun H locs w hw hB => ?_)
        obtain ⟨π, hπ, rfl⟩ := hw
        refine lv_aload_n hx hb d_ST_rule_43 rfl (lv_at hl 0 rfl) ?_
        refine gt hC hB _ lkC_ST rfl i_ST 0 (by decide) rfl kw_256 rfl d_ST_rule_44 ?_
        refine kV hC hB _ lkC_Journal rfl (c_Journal_keep (m_Row_set σ 18 0 x0.toInt64) π hπ) allw_ok mf_Journal_keep kw_329 kw_330 kw_328 ⟨rfl, rfl, Nat.le_of_ble_eq_true rfl, Nat.le_of_ble_eq_true rfl⟩ rfl rfl hl.1 (Nat.le_of_ble_eq_true rfl) d_ST_rule_47 ⟨Nat.le_of_ble_eq_true rfl, Nat.le_of_ble_eq_true rfl⟩ (fun H locs w hw hB => ?_)
        obtain ⟨π, hπ, rfl⟩ := hw
        refine lv_iconst (v := 1) hx hb d_ST_rule_50 (by decide) ?_
        obtain ⟨rfl, rfl⟩ := Prod.mk.inj (Option.some.inj hR)
        refine W.widen (k := 1) (n := 4) (Nat.le_of_ble_eq_true rfl) (Nat.le_of_ble_eq_true rfl) ?_
        exact rz (b := true) hC hB ⟨π, hπ, rfl⟩ d_ST_rule_51
      · rw [if_pos c_4] at hR
        refine lv_iconst (v := 0) hx hb d_ST_rule_31 (by decide) ?_
        obtain ⟨rfl, rfl⟩ := Prod.mk.inj (Option.some.inj hR)
        refine W.widen (k := 1) (n := 4) (Nat.le_of_ble_eq_true rfl) (Nat.le_of_ble_eq_true rfl) ?_
        exact rz (b := false) hC hB ⟨π, hπ, rfl⟩ d_ST_rule_32
    · rw [if_neg c_3] at hR
      cases hR

set_option maxHeartbeats 400000 in
set_option maxRecDepth 100000 in
theorem x_ST_rule (htl : l.stackTraces = false) (σ : SC) (π : PJ) (x0 : Int32) (hR : m_ST_rule σ x0 = none) : MX l y_ST_rule b_ST_rule 2 (some .boolean) { frames := 6, cells := 1, slots := 6, locals := 90 } D classes (tyL cI cL cQ) NWL ALLW N0 N1 [.ref (G 0 0), .int x0] (wsC G cI cL cQ σ π rest) "java/lang/IllegalArgumentException" 1 6 := by
  refine mx_of (own := R_ST) (by decide) rfl nwl_ok ?_
  intro p e s m below meth c hC hex hSW hB
  have hB0 := hB
  have hx := hC.1
  have hb := hC.2.1
  have hl := lv_entry ([.ref (G 0 0), .int x0]) (n := 2) (Nat.le_of_ble_eq_true rfl)
  rw [lg_entry_eq]
  generalize (lg_sl ([.ref (G 0 0), .int x0]) ++ List.replicate (2 - (lg_sl ([.ref (G 0 0), .int x0])).length) Slot.unset).toArray = ls at hl ⊢
  have hl : lv_has ls 2 [(0, .ref (G 0 0)), (1, .int x0)] := hl
  rw [m_ST_rule] at hR
  refine lv_iload_n hx hb d_ST_rule_0 rfl (lv_at hl 1 rfl) ?_
  refine lv_if_eq (tgt := 19) hx hb d_ST_rule_1 (by decide) (fun c_1 => ?_) (fun c_1 => ?_)
  · rw [if_pos c_1] at hR
    refine lv_aload_n hx hb d_ST_rule_19 rfl (lv_at hl 0 rfl) ?_
    refine gt hC hB _ lkC_ST rfl i_ST 5 (by decide) rfl kw_261 rfl d_ST_rule_20 ?_
    refine lv_iconst (v := 0) hx hb d_ST_rule_23 (by decide) ?_
    refine kV hC hB _ (lkC_row (by decide)) rfl (c_Row_at 18 (by decide) σ π 0) allw_ok mf_Row_at kw_233 kw_234 kw_713 ⟨rfl, rfl, Nat.le_of_ble_eq_true rfl, Nat.le_of_ble_eq_true rfl⟩ rfl rfl hl.1 (Nat.le_of_ble_eq_true rfl) d_ST_rule_24 ⟨Nat.le_of_ble_eq_true rfl, Nat.le_of_ble_eq_true rfl⟩ (roK fun H locs hB => ?_)
    refine lv_iload_n hx hb d_ST_rule_27 rfl (lv_at hl 1 rfl) ?_
    refine lv_icmp_ne (tgt := 33) hx hb d_ST_rule_28 (by decide) (fun c_2 => ?_) (fun c_2 => ?_)
    · rw [if_neg c_2] at hR
      refine lv_aload_n hx hb d_ST_rule_33 rfl (lv_at hl 0 rfl) ?_
      refine gt hC hB _ lkC_ST rfl i_ST 5 (by decide) rfl kw_261 rfl d_ST_rule_34 ?_
      refine lv_iconst (v := 0) hx hb d_ST_rule_37 (by decide) ?_
      refine lv_iload_n hx hb d_ST_rule_38 rfl (lv_at hl 1 rfl) ?_
      refine lv_i2l hx hb d_ST_rule_39 rfl ?_
      refine absurd hR ?_
      repeat' (first | with_reducible exact nn_some _ | with_reducible refine nn_ite ?_ ?_)
    · rw [if_pos c_2] at hR
      refine lv_iconst (v := 0) hx hb d_ST_rule_31 (by decide) ?_
      cases hR
  · rw [if_neg c_1] at hR
    refine lv_iload_n hx hb d_ST_rule_4 rfl (lv_at hl 1 rfl) ?_
    refine lv_iconst (v := 1) hx hb d_ST_rule_5 (by decide) ?_
    refine lv_icmp_eq (tgt := 19) hx hb d_ST_rule_6 (by decide) (fun c_3 => ?_) (fun c_3 => ?_)
    · rw [if_pos c_3] at hR
      refine lv_aload_n hx hb d_ST_rule_19 rfl (lv_at hl 0 rfl) ?_
      refine gt hC hB _ lkC_ST rfl i_ST 5 (by decide) rfl kw_261 rfl d_ST_rule_20 ?_
      refine lv_iconst (v := 0) hx hb d_ST_rule_23 (by decide) ?_
      refine kV hC hB _ (lkC_row (by decide)) rfl (c_Row_at 18 (by decide) σ π 0) allw_ok mf_Row_at kw_233 kw_234 kw_713 ⟨rfl, rfl, Nat.le_of_ble_eq_true rfl, Nat.le_of_ble_eq_true rfl⟩ rfl rfl hl.1 (Nat.le_of_ble_eq_true rfl) d_ST_rule_24 ⟨Nat.le_of_ble_eq_true rfl, Nat.le_of_ble_eq_true rfl⟩ (roK fun H locs hB => ?_)
      refine lv_iload_n hx hb d_ST_rule_27 rfl (lv_at hl 1 rfl) ?_
      refine lv_icmp_ne (tgt := 33) hx hb d_ST_rule_28 (by decide) (fun c_4 => ?_) (fun c_4 => ?_)
      · rw [if_neg c_4] at hR
        refine lv_aload_n hx hb d_ST_rule_33 rfl (lv_at hl 0 rfl) ?_
        refine gt hC hB _ lkC_ST rfl i_ST 5 (by decide) rfl kw_261 rfl d_ST_rule_34 ?_
        refine lv_iconst (v := 0) hx hb d_ST_rule_37 (by decide) ?_
        refine lv_iload_n hx hb d_ST_rule_38 rfl (lv_at hl 1 rfl) ?_
        refine lv_i2l hx hb d_ST_rule_39 rfl ?_
        refine absurd hR ?_
        repeat' (first | with_reducible exact nn_some _ | with_reducible refine nn_ite ?_ ?_)
      · rw [if_pos c_4] at hR
        refine lv_iconst (v := 0) hx hb d_ST_rule_31 (by decide) ?_
        cases hR
    · rw [if_neg c_3] at hR
      obtain ⟨sa, hsa⟩ := hSW.2.1 _ (List.mem_of_getElem? (i := 6) rfl)
      exact tx_newS (names := ["java/lang/RuntimeException", "java/lang/Exception"]) htl hC hB0 hB (by decide) (by decide) (ownIO 135 _ hC.2.2.2.2.2.1 hSW own_IAE) kw_593 kw_16 hsa hl.1 d_ST_rule_9 d_ST_rule_12 d_ST_rule_13 d_ST_rule_15 d_ST_rule_18 hex (Nat.le_of_ble_eq_true rfl) (Nat.le_of_ble_eq_true rfl) (Nat.le_of_ble_eq_true rfl) (Nat.le_of_ble_eq_true rfl) (Nat.le_of_ble_eq_true rfl) (Nat.le_of_ble_eq_true rfl)

set_option maxHeartbeats 400000 in
set_option maxRecDepth 100000 in
theorem c_ST_variant (σ : SC) (π : PJ) (hπ : RJ π σ) (x0 : Int32) (RES : Int32 × SC) (hR : m_ST_variant σ x0 = some RES) : CM l y_ST_variant b_ST_variant 3 (some .int) { frames := 5, cells := 2, slots := 8, locals := 109 } D (tyL cI cL cQ) N0 N0 [.ref (G 0 0), .int x0] (wsC G cI cL cQ σ π rest) (some (.int RES.1)) (pwC G cI cL cQ RES.2 rest) 2 8 := by
  obtain ⟨RV, RS⟩ := RES
  dsimp only
  refine met_of (own := R_ST) (by decide) rfl nwl_ok ?_
  intro p e s m below meth c hC hin hB
  have hx := hC.1
  have hb := hC.2.1
  have hl := lv_entry ([.ref (G 0 0), .int x0]) (n := 3) (Nat.le_of_ble_eq_true rfl)
  rw [lg_entry_eq]
  generalize (lg_sl ([.ref (G 0 0), .int x0]) ++ List.replicate (3 - (lg_sl ([.ref (G 0 0), .int x0])).length) Slot.unset).toArray = ls at hl ⊢
  have hl : lv_has ls 3 [(0, .ref (G 0 0)), (1, .int x0)] := hl
  rw [m_ST_variant] at hR
  refine lv_aload_n hx hb d_ST_variant_0 rfl (lv_at hl 0 rfl) ?_
  refine lv_iload_n hx hb d_ST_variant_1 rfl (lv_at hl 1 rfl) ?_
  obtain ⟨u_1, hq_1⟩ : ∃ z, m_ST_needVariantOrNone σ x0 = some z := by
    cases hz : m_ST_needVariantOrNone σ x0 with
    | none => rw [hz] at hR; cases hR
    | some z => exact ⟨z, rfl⟩
  rw [hq_1] at hR
  dsimp only at hR
  refine kV hC hB _ lkC_ST rfl (c_ST_needVariantOrNone σ π x0 u_1 hq_1) allw_ok mf_ST_needVariantOrNone kw_724 ks_19 kw_722 ⟨rfl, rfl, Nat.le_of_ble_eq_true rfl, Nat.le_of_ble_eq_true rfl⟩ rfl rfl hl.1 (Nat.le_of_ble_eq_true rfl) d_ST_variant_2 ⟨Nat.le_of_ble_eq_true rfl, Nat.le_of_ble_eq_true rfl⟩ (roK fun H locs hB => ?_)
  refine lv_aload_n hx hb d_ST_variant_5 rfl (lv_at hl 0 rfl) ?_
  refine gt hC hB _ lkC_ST rfl i_ST 4 (by decide) rfl kw_260 rfl d_ST_variant_6 ?_
  refine kV hC hB _ lkC_Variants rfl (c_Variants_count σ π) allw_ok mf_Variants_count kw_735 kw_736 kw_740 ⟨rfl, rfl, Nat.le_of_ble_eq_true rfl, Nat.le_of_ble_eq_true rfl⟩ rfl rfl hl.1 (Nat.le_of_ble_eq_true rfl) d_ST_variant_9 ⟨Nat.le_of_ble_eq_true rfl, Nat.le_of_ble_eq_true rfl⟩ (roK fun H locs hB => ?_)
  refine lv_bipush (v := 10) hx hb d_ST_variant_12 (by decide) ?_
  refine lv_icmp_lt (tgt := 19) hx hb d_ST_variant_14 (by decide) (fun c_2 => ?_) (fun c_2 => ?_)
  · rw [if_pos c_2] at hR
    refine lv_aload_n hx hb d_ST_variant_19 rfl (lv_at hl 0 rfl) ?_
    refine gt hC hB _ lkC_ST rfl i_ST 4 (by decide) rfl kw_260 rfl d_ST_variant_20 ?_
    refine lv_iload_n hx hb d_ST_variant_23 rfl (lv_at hl 1 rfl) ?_
    refine kV hC hB _ lkC_Variants rfl (c_Variants_addVariant σ π hπ x0) allw_ok mf_Variants_addVariant kw_742 kw_743 kw_741 ⟨rfl, rfl, Nat.le_of_ble_eq_true rfl, Nat.le_of_ble_eq_true rfl⟩ rfl rfl hl.1 (Nat.le_of_ble_eq_true rfl) d_ST_variant_24 ⟨Nat.le_of_ble_eq_true rfl, Nat.le_of_ble_eq_true rfl⟩ (fun H locs w hw hB => ?_)
    obtain ⟨π, hπ, rfl⟩ := hw
    refine lv_istore_n (lv' := [(2, .int ((m_Variants_addVariant σ x0).1)), (0, .ref (G 0 0)), (1, .int x0)]) hx hb d_ST_variant_27 rfl hl (by decide) rfl (fun ls hl => ?_)
    refine lv_aload_n hx hb d_ST_variant_28 rfl (lv_at hl 1 rfl) ?_
    refine gt hC hB _ lkC_ST rfl i_ST 0 (by decide) rfl kw_256 rfl d_ST_variant_29 ?_
    refine kV hC hB _ lkC_Journal rfl (c_Journal_keep ((m_Variants_addVariant σ x0).2) π hπ) allw_ok mf_Journal_keep kw_329 kw_330 kw_328 ⟨rfl, rfl, Nat.le_of_ble_eq_true rfl, Nat.le_of_ble_eq_true rfl⟩ rfl rfl hl.1 (Nat.le_of_ble_eq_true rfl) d_ST_variant_32 ⟨Nat.le_of_ble_eq_true rfl, Nat.le_of_ble_eq_true rfl⟩ (fun H locs w hw hB => ?_)
    obtain ⟨π, hπ, rfl⟩ := hw
    refine lv_iload_n hx hb d_ST_variant_35 rfl (lv_at hl 0 rfl) ?_
    obtain ⟨rfl, rfl⟩ := Prod.mk.inj (Option.some.inj hR)
    refine W.widen (k := 2) (n := 8) (Nat.le_of_ble_eq_true rfl) (Nat.le_of_ble_eq_true rfl) ?_
    exact ri hC hB ⟨π, hπ, rfl⟩ d_ST_variant_36
  · rw [if_neg c_2] at hR
    refine lv_iconst (v := (-1)) hx hb d_ST_variant_17 (by decide) ?_
    obtain ⟨rfl, rfl⟩ := Prod.mk.inj (Option.some.inj hR)
    refine W.widen (k := 2) (n := 8) (Nat.le_of_ble_eq_true rfl) (Nat.le_of_ble_eq_true rfl) ?_
    exact ri hC hB ⟨π, hπ, rfl⟩ d_ST_variant_18

set_option maxHeartbeats 400000 in
set_option maxRecDepth 100000 in
theorem x_ST_variant (htl : l.stackTraces = false) (σ : SC) (π : PJ) (x0 : Int32) (hR : m_ST_variant σ x0 = none) : MX l y_ST_variant b_ST_variant 3 (some .int) { frames := 8, cells := 1, slots := 6, locals := 132 } D classes (tyL cI cL cQ) NWL ALLW N0 N1 [.ref (G 0 0), .int x0] (wsC G cI cL cQ σ π rest) "java/lang/IndexOutOfBoundsException" 1 6 := by
  refine mx_of (own := R_ST) (by decide) rfl nwl_ok ?_
  intro p e s m below meth c hC hex hSW hB
  have hB0 := hB
  have hx := hC.1
  have hb := hC.2.1
  have hl := lv_entry ([.ref (G 0 0), .int x0]) (n := 3) (Nat.le_of_ble_eq_true rfl)
  rw [lg_entry_eq]
  generalize (lg_sl ([.ref (G 0 0), .int x0]) ++ List.replicate (3 - (lg_sl ([.ref (G 0 0), .int x0])).length) Slot.unset).toArray = ls at hl ⊢
  have hl : lv_has ls 3 [(0, .ref (G 0 0)), (1, .int x0)] := hl
  rw [m_ST_variant] at hR
  refine lv_aload_n hx hb d_ST_variant_0 rfl (lv_at hl 0 rfl) ?_
  refine lv_iload_n hx hb d_ST_variant_1 rfl (lv_at hl 1 rfl) ?_
  rcases hq_1 : m_ST_needVariantOrNone σ x0 with _ | u_1
  · refine kx hC hSW hB _ lkC_ST rfl (x_ST_needVariantOrNone htl σ π x0 hq_1) allw_ok mf_ST_needVariantOrNone kw_724 ks_19 kw_722 ⟨rfl, rfl, Nat.le_of_ble_eq_true rfl, Nat.le_of_ble_eq_true rfl⟩ rfl rfl hl.1 (Nat.le_of_ble_eq_true rfl) d_ST_variant_2 ⟨Nat.le_of_ble_eq_true rfl, Nat.le_of_ble_eq_true rfl⟩ (fun q ce H locs hB h1 h2 h3 => ?_)
    exact tx_out hC hB (by rw [hex]; intro x hx; cases hx) h1 h2 h3 (Nat.le_of_ble_eq_true rfl) (Nat.le_of_ble_eq_true rfl)
  rw [hq_1] at hR
  dsimp only at hR
  refine kV hC hB _ lkC_ST rfl (c_ST_needVariantOrNone σ π x0 u_1 hq_1) allw_ok mf_ST_needVariantOrNone kw_724 ks_19 kw_722 ⟨rfl, rfl, Nat.le_of_ble_eq_true rfl, Nat.le_of_ble_eq_true rfl⟩ rfl rfl hl.1 (Nat.le_of_ble_eq_true rfl) d_ST_variant_2 ⟨Nat.le_of_ble_eq_true rfl, Nat.le_of_ble_eq_true rfl⟩ (roK fun H locs hB => ?_)
  refine lv_aload_n hx hb d_ST_variant_5 rfl (lv_at hl 0 rfl) ?_
  refine gt hC hB _ lkC_ST rfl i_ST 4 (by decide) rfl kw_260 rfl d_ST_variant_6 ?_
  refine kV hC hB _ lkC_Variants rfl (c_Variants_count σ π) allw_ok mf_Variants_count kw_735 kw_736 kw_740 ⟨rfl, rfl, Nat.le_of_ble_eq_true rfl, Nat.le_of_ble_eq_true rfl⟩ rfl rfl hl.1 (Nat.le_of_ble_eq_true rfl) d_ST_variant_9 ⟨Nat.le_of_ble_eq_true rfl, Nat.le_of_ble_eq_true rfl⟩ (roK fun H locs hB => ?_)
  refine lv_bipush (v := 10) hx hb d_ST_variant_12 (by decide) ?_
  refine lv_icmp_lt (tgt := 19) hx hb d_ST_variant_14 (by decide) (fun c_2 => ?_) (fun c_2 => ?_)
  · rw [if_pos c_2] at hR
    refine lv_aload_n hx hb d_ST_variant_19 rfl (lv_at hl 0 rfl) ?_
    refine gt hC hB _ lkC_ST rfl i_ST 4 (by decide) rfl kw_260 rfl d_ST_variant_20 ?_
    refine lv_iload_n hx hb d_ST_variant_23 rfl (lv_at hl 1 rfl) ?_
    refine absurd hR ?_
    repeat' (first | with_reducible exact nn_some _ | with_reducible refine nn_ite ?_ ?_)
  · rw [if_neg c_2] at hR
    refine lv_iconst (v := (-1)) hx hb d_ST_variant_17 (by decide) ?_
    cases hR

set_option maxHeartbeats 400000 in
set_option maxRecDepth 100000 in
theorem c_ST_heard (σ : SC) (π : PJ) (x0 : Int32) (x1 : Int32) (x2 : Int32) (x3 : Int32) (x4 : Int64) (RES : Int64) (hR : m_ST_heard σ x0 x1 x2 x3 x4 = some RES) : CM l y_ST_heard b_ST_heard 8 (some .long) { frames := 5, cells := 0, slots := 0, locals := 120 } D (tyL cI cL cQ) N0 N1 [.ref (G 0 0), .int x0, .int x1, .int x2, .int x3, .long x4] (wsC G cI cL cQ σ π rest) (some (.long RES)) (fun w => w = wsC G cI cL cQ σ π rest) 0 0 := by
  refine met_of (own := R_ST) (by decide) rfl nwl_ok ?_
  intro p e s m below meth c hC hin hB
  have hx := hC.1
  have hb := hC.2.1
  have hl := lv_entry ([.ref (G 0 0), .int x0, .int x1, .int x2, .int x3, .long x4]) (n := 8) (Nat.le_of_ble_eq_true rfl)
  rw [lg_entry_eq]
  generalize (lg_sl ([.ref (G 0 0), .int x0, .int x1, .int x2, .int x3, .long x4]) ++ List.replicate (8 - (lg_sl ([.ref (G 0 0), .int x0, .int x1, .int x2, .int x3, .long x4])).length) Slot.unset).toArray = ls at hl ⊢
  have hl : lv_has ls 8 [(0, .ref (G 0 0)), (1, .int x0), (2, .int x1), (3, .int x2), (4, .int x3), (5, .long x4)] := hl
  rw [m_ST_heard] at hR
  refine lv_aload_n hx hb d_ST_heard_0 rfl (lv_at hl 0 rfl) ?_
  refine lv_iload_n hx hb d_ST_heard_1 rfl (lv_at hl 2 rfl) ?_
  obtain ⟨u_1, hq_1⟩ : ∃ z, m_ST_needVariantOrNone σ x1 = some z := by
    cases hz : m_ST_needVariantOrNone σ x1 with
    | none => rw [hz] at hR; cases hR
    | some z => exact ⟨z, rfl⟩
  rw [hq_1] at hR
  dsimp only at hR
  refine kV hC hB _ lkC_ST rfl (c_ST_needVariantOrNone σ π x1 u_1 hq_1) allw_ok mf_ST_needVariantOrNone kw_724 ks_19 kw_722 ⟨rfl, rfl, Nat.le_of_ble_eq_true rfl, Nat.le_of_ble_eq_true rfl⟩ rfl rfl hl.1 (Nat.le_of_ble_eq_true rfl) d_ST_heard_2 ⟨Nat.le_of_ble_eq_true rfl, Nat.le_of_ble_eq_true rfl⟩ (roK fun H locs hB => ?_)
  refine lv_aload_n hx hb d_ST_heard_5 rfl (lv_at hl 0 rfl) ?_
  refine lv_iload_n hx hb d_ST_heard_6 rfl (lv_at hl 3 rfl) ?_
  obtain ⟨u_2, hq_2⟩ : ∃ z, m_ST_needPage σ x2 = some z := by
    cases hz : m_ST_needPage σ x2 with
    | none => rw [hz] at hR; cases hR
    | some z => exact ⟨z, rfl⟩
  rw [hq_2] at hR
  dsimp only at hR
  refine kV hC hB _ lkC_ST rfl (c_ST_needPage σ π x2 u_2 hq_2) allw_ok mf_ST_needPage kw_759 ks_22 kw_757 ⟨rfl, rfl, Nat.le_of_ble_eq_true rfl, Nat.le_of_ble_eq_true rfl⟩ rfl rfl hl.1 (Nat.le_of_ble_eq_true rfl) d_ST_heard_7 ⟨Nat.le_of_ble_eq_true rfl, Nat.le_of_ble_eq_true rfl⟩ (roK fun H locs hB => ?_)
  refine lv_aload_n hx hb d_ST_heard_10 rfl (lv_at hl 0 rfl) ?_
  refine lv_iload hx hb d_ST_heard_11 (lv_at hl 4 rfl) ?_
  obtain ⟨u_3, hq_3⟩ : ∃ z, m_ST_needPart σ x3 = some z := by
    cases hz : m_ST_needPart σ x3 with
    | none => rw [hz] at hR; cases hR
    | some z => exact ⟨z, rfl⟩
  rw [hq_3] at hR
  dsimp only at hR
  refine kV hC hB _ lkC_ST rfl (c_ST_needPart σ π x3 u_3 hq_3) allw_ok mf_ST_needPart kw_628 ks_14 kw_626 ⟨rfl, rfl, Nat.le_of_ble_eq_true rfl, Nat.le_of_ble_eq_true rfl⟩ rfl rfl hl.1 (Nat.le_of_ble_eq_true rfl) d_ST_heard_13 ⟨Nat.le_of_ble_eq_true rfl, Nat.le_of_ble_eq_true rfl⟩ (roK fun H locs hB => ?_)
  refine lv_aload_n hx hb d_ST_heard_16 rfl (lv_at hl 0 rfl) ?_
  refine gt hC hB _ lkC_ST rfl i_ST 4 (by decide) rfl kw_260 rfl d_ST_heard_17 ?_
  refine lv_iload_n hx hb d_ST_heard_20 rfl (lv_at hl 1 rfl) ?_
  refine lv_iload_n hx hb d_ST_heard_21 rfl (lv_at hl 2 rfl) ?_
  refine lv_iload_n hx hb d_ST_heard_22 rfl (lv_at hl 3 rfl) ?_
  refine lv_iload hx hb d_ST_heard_23 (lv_at hl 4 rfl) ?_
  refine kV hC hB _ lkC_Variants rfl (c_Variants_nearest σ π x0 x1 x2 x3) allw_ok mf_Variants_nearest kw_808 kw_809 kw_807 ⟨rfl, rfl, Nat.le_of_ble_eq_true rfl, Nat.le_of_ble_eq_true rfl⟩ rfl rfl hl.1 (Nat.le_of_ble_eq_true rfl) d_ST_heard_25 ⟨Nat.le_of_ble_eq_true rfl, Nat.le_of_ble_eq_true rfl⟩ (roK fun H locs hB => ?_)
  refine lv_istore (lv' := [(7, .int (m_Variants_nearest σ x0 x1 x2 x3)), (0, .ref (G 0 0)), (1, .int x0), (2, .int x1), (3, .int x2), (4, .int x3), (5, .long x4)]) hx hb d_ST_heard_28 hl (by decide) rfl (fun ls hl => ?_)
  refine lv_iload hx hb d_ST_heard_30 (lv_at hl 0 rfl) ?_
  refine lv_iconst (v := (-1)) hx hb d_ST_heard_32 (by decide) ?_
  refine lv_icmp_ne (tgt := 41) hx hb d_ST_heard_33 (by decide) (fun c_4 => ?_) (fun c_4 => ?_)
  · rw [if_neg c_4] at hR
    refine lv_aload_n hx hb d_ST_heard_41 rfl (lv_at hl 1 rfl) ?_
    refine gt hC hB _ lkC_ST rfl i_ST 4 (by decide) rfl kw_260 rfl d_ST_heard_42 ?_
    refine lv_iload hx hb d_ST_heard_45 (lv_at hl 0 rfl) ?_
    refine kV hC hB _ lkC_Variants rfl (c_Variants_content σ π (m_Variants_nearest σ x0 x1 x2 x3)) allw_ok mf_Variants_content kw_781 kw_782 kw_811 ⟨rfl, rfl, Nat.le_of_ble_eq_true rfl, Nat.le_of_ble_eq_true rfl⟩ rfl rfl hl.1 (Nat.le_of_ble_eq_true rfl) d_ST_heard_47 ⟨Nat.le_of_ble_eq_true rfl, Nat.le_of_ble_eq_true rfl⟩ (roK fun H locs hB => ?_)
    obtain rfl := Option.some.inj hR
    exact rl hC hB rfl d_ST_heard_50
  · rw [if_pos c_4] at hR
    refine lv_lload hx hb d_ST_heard_36 (lv_at hl 6 rfl) ?_
    refine lv_goto (tgt := 50) hx hb d_ST_heard_38 (by decide) ?_
    obtain rfl := Option.some.inj hR
    exact rl hC hB rfl d_ST_heard_50

set_option maxHeartbeats 400000 in
set_option maxRecDepth 100000 in
theorem x_ST_heard (htl : l.stackTraces = false) (σ : SC) (π : PJ) (x0 : Int32) (x1 : Int32) (x2 : Int32) (x3 : Int32) (x4 : Int64) (hR : m_ST_heard σ x0 x1 x2 x3 x4 = none) : MX l y_ST_heard b_ST_heard 8 (some .long) { frames := 8, cells := 1, slots := 6, locals := 132 } D classes (tyL cI cL cQ) NWL ALLW N0 N1 [.ref (G 0 0), .int x0, .int x1, .int x2, .int x3, .long x4] (wsC G cI cL cQ σ π rest) "java/lang/IndexOutOfBoundsException" 1 6 := by
  refine mx_of (own := R_ST) (by decide) rfl nwl_ok ?_
  intro p e s m below meth c hC hex hSW hB
  have hB0 := hB
  have hx := hC.1
  have hb := hC.2.1
  have hl := lv_entry ([.ref (G 0 0), .int x0, .int x1, .int x2, .int x3, .long x4]) (n := 8) (Nat.le_of_ble_eq_true rfl)
  rw [lg_entry_eq]
  generalize (lg_sl ([.ref (G 0 0), .int x0, .int x1, .int x2, .int x3, .long x4]) ++ List.replicate (8 - (lg_sl ([.ref (G 0 0), .int x0, .int x1, .int x2, .int x3, .long x4])).length) Slot.unset).toArray = ls at hl ⊢
  have hl : lv_has ls 8 [(0, .ref (G 0 0)), (1, .int x0), (2, .int x1), (3, .int x2), (4, .int x3), (5, .long x4)] := hl
  rw [m_ST_heard] at hR
  refine lv_aload_n hx hb d_ST_heard_0 rfl (lv_at hl 0 rfl) ?_
  refine lv_iload_n hx hb d_ST_heard_1 rfl (lv_at hl 2 rfl) ?_
  rcases hq_1 : m_ST_needVariantOrNone σ x1 with _ | u_1
  · refine kx hC hSW hB _ lkC_ST rfl (x_ST_needVariantOrNone htl σ π x1 hq_1) allw_ok mf_ST_needVariantOrNone kw_724 ks_19 kw_722 ⟨rfl, rfl, Nat.le_of_ble_eq_true rfl, Nat.le_of_ble_eq_true rfl⟩ rfl rfl hl.1 (Nat.le_of_ble_eq_true rfl) d_ST_heard_2 ⟨Nat.le_of_ble_eq_true rfl, Nat.le_of_ble_eq_true rfl⟩ (fun q ce H locs hB h1 h2 h3 => ?_)
    exact tx_out hC hB (by rw [hex]; intro x hx; cases hx) h1 h2 h3 (Nat.le_of_ble_eq_true rfl) (Nat.le_of_ble_eq_true rfl)
  rw [hq_1] at hR
  dsimp only at hR
  refine kV hC hB _ lkC_ST rfl (c_ST_needVariantOrNone σ π x1 u_1 hq_1) allw_ok mf_ST_needVariantOrNone kw_724 ks_19 kw_722 ⟨rfl, rfl, Nat.le_of_ble_eq_true rfl, Nat.le_of_ble_eq_true rfl⟩ rfl rfl hl.1 (Nat.le_of_ble_eq_true rfl) d_ST_heard_2 ⟨Nat.le_of_ble_eq_true rfl, Nat.le_of_ble_eq_true rfl⟩ (roK fun H locs hB => ?_)
  refine lv_aload_n hx hb d_ST_heard_5 rfl (lv_at hl 0 rfl) ?_
  refine lv_iload_n hx hb d_ST_heard_6 rfl (lv_at hl 3 rfl) ?_
  rcases hq_2 : m_ST_needPage σ x2 with _ | u_2
  · refine kx hC hSW hB _ lkC_ST rfl (x_ST_needPage htl σ π x2 hq_2) allw_ok mf_ST_needPage kw_759 ks_22 kw_757 ⟨rfl, rfl, Nat.le_of_ble_eq_true rfl, Nat.le_of_ble_eq_true rfl⟩ rfl rfl hl.1 (Nat.le_of_ble_eq_true rfl) d_ST_heard_7 ⟨Nat.le_of_ble_eq_true rfl, Nat.le_of_ble_eq_true rfl⟩ (fun q ce H locs hB h1 h2 h3 => ?_)
    exact tx_out hC hB (by rw [hex]; intro x hx; cases hx) h1 h2 h3 (Nat.le_of_ble_eq_true rfl) (Nat.le_of_ble_eq_true rfl)
  rw [hq_2] at hR
  dsimp only at hR
  refine kV hC hB _ lkC_ST rfl (c_ST_needPage σ π x2 u_2 hq_2) allw_ok mf_ST_needPage kw_759 ks_22 kw_757 ⟨rfl, rfl, Nat.le_of_ble_eq_true rfl, Nat.le_of_ble_eq_true rfl⟩ rfl rfl hl.1 (Nat.le_of_ble_eq_true rfl) d_ST_heard_7 ⟨Nat.le_of_ble_eq_true rfl, Nat.le_of_ble_eq_true rfl⟩ (roK fun H locs hB => ?_)
  refine lv_aload_n hx hb d_ST_heard_10 rfl (lv_at hl 0 rfl) ?_
  refine lv_iload hx hb d_ST_heard_11 (lv_at hl 4 rfl) ?_
  rcases hq_3 : m_ST_needPart σ x3 with _ | u_3
  · refine kx hC hSW hB _ lkC_ST rfl (x_ST_needPart htl σ π x3 hq_3) allw_ok mf_ST_needPart kw_628 ks_14 kw_626 ⟨rfl, rfl, Nat.le_of_ble_eq_true rfl, Nat.le_of_ble_eq_true rfl⟩ rfl rfl hl.1 (Nat.le_of_ble_eq_true rfl) d_ST_heard_13 ⟨Nat.le_of_ble_eq_true rfl, Nat.le_of_ble_eq_true rfl⟩ (fun q ce H locs hB h1 h2 h3 => ?_)
    exact tx_out hC hB (by rw [hex]; intro x hx; cases hx) h1 h2 h3 (Nat.le_of_ble_eq_true rfl) (Nat.le_of_ble_eq_true rfl)
  rw [hq_3] at hR
  dsimp only at hR
  refine kV hC hB _ lkC_ST rfl (c_ST_needPart σ π x3 u_3 hq_3) allw_ok mf_ST_needPart kw_628 ks_14 kw_626 ⟨rfl, rfl, Nat.le_of_ble_eq_true rfl, Nat.le_of_ble_eq_true rfl⟩ rfl rfl hl.1 (Nat.le_of_ble_eq_true rfl) d_ST_heard_13 ⟨Nat.le_of_ble_eq_true rfl, Nat.le_of_ble_eq_true rfl⟩ (roK fun H locs hB => ?_)
  refine lv_aload_n hx hb d_ST_heard_16 rfl (lv_at hl 0 rfl) ?_
  refine gt hC hB _ lkC_ST rfl i_ST 4 (by decide) rfl kw_260 rfl d_ST_heard_17 ?_
  refine lv_iload_n hx hb d_ST_heard_20 rfl (lv_at hl 1 rfl) ?_
  refine lv_iload_n hx hb d_ST_heard_21 rfl (lv_at hl 2 rfl) ?_
  refine lv_iload_n hx hb d_ST_heard_22 rfl (lv_at hl 3 rfl) ?_
  refine lv_iload hx hb d_ST_heard_23 (lv_at hl 4 rfl) ?_
  refine kV hC hB _ lkC_Variants rfl (c_Variants_nearest σ π x0 x1 x2 x3) allw_ok mf_Variants_nearest kw_808 kw_809 kw_807 ⟨rfl, rfl, Nat.le_of_ble_eq_true rfl, Nat.le_of_ble_eq_true rfl⟩ rfl rfl hl.1 (Nat.le_of_ble_eq_true rfl) d_ST_heard_25 ⟨Nat.le_of_ble_eq_true rfl, Nat.le_of_ble_eq_true rfl⟩ (roK fun H locs hB => ?_)
  refine lv_istore (lv' := [(7, .int (m_Variants_nearest σ x0 x1 x2 x3)), (0, .ref (G 0 0)), (1, .int x0), (2, .int x1), (3, .int x2), (4, .int x3), (5, .long x4)]) hx hb d_ST_heard_28 hl (by decide) rfl (fun ls hl => ?_)
  refine lv_iload hx hb d_ST_heard_30 (lv_at hl 0 rfl) ?_
  refine lv_iconst (v := (-1)) hx hb d_ST_heard_32 (by decide) ?_
  refine lv_icmp_ne (tgt := 41) hx hb d_ST_heard_33 (by decide) (fun c_4 => ?_) (fun c_4 => ?_)
  · rw [if_neg c_4] at hR
    refine lv_aload_n hx hb d_ST_heard_41 rfl (lv_at hl 1 rfl) ?_
    refine gt hC hB _ lkC_ST rfl i_ST 4 (by decide) rfl kw_260 rfl d_ST_heard_42 ?_
    refine lv_iload hx hb d_ST_heard_45 (lv_at hl 0 rfl) ?_
    refine kV hC hB _ lkC_Variants rfl (c_Variants_content σ π (m_Variants_nearest σ x0 x1 x2 x3)) allw_ok mf_Variants_content kw_781 kw_782 kw_811 ⟨rfl, rfl, Nat.le_of_ble_eq_true rfl, Nat.le_of_ble_eq_true rfl⟩ rfl rfl hl.1 (Nat.le_of_ble_eq_true rfl) d_ST_heard_47 ⟨Nat.le_of_ble_eq_true rfl, Nat.le_of_ble_eq_true rfl⟩ (roK fun H locs hB => ?_)
    cases hR
  · rw [if_pos c_4] at hR
    refine lv_lload hx hb d_ST_heard_36 (lv_at hl 6 rfl) ?_
    refine lv_goto (tgt := 50) hx hb d_ST_heard_38 (by decide) ?_
    cases hR

set_option maxHeartbeats 400000 in
set_option maxRecDepth 100000 in
theorem c_ST_valueOf (σ : SC) (π : PJ) (x0 : Int32) (x1 : Int32) (x2 : Int32) (RES : Int64) (hR : m_ST_valueOf σ x0 x1 x2 = some RES) : CM l y_ST_valueOf b_ST_valueOf 4 (some .long) { frames := 6, cells := 0, slots := 0, locals := 147 } D (tyL cI cL cQ) N0 N1 [.ref (G 0 0), .int x0, .int x1, .int x2] (wsC G cI cL cQ σ π rest) (some (.long RES)) (fun w => w = wsC G cI cL cQ σ π rest) 0 0 := by
  refine met_of (own := R_ST) (by decide) rfl nwl_ok ?_
  intro p e s m below meth c hC hin hB
  have hx := hC.1
  have hb := hC.2.1
  have hl := lv_entry ([.ref (G 0 0), .int x0, .int x1, .int x2]) (n := 4) (Nat.le_of_ble_eq_true rfl)
  rw [lg_entry_eq]
  generalize (lg_sl ([.ref (G 0 0), .int x0, .int x1, .int x2]) ++ List.replicate (4 - (lg_sl ([.ref (G 0 0), .int x0, .int x1, .int x2])).length) Slot.unset).toArray = ls at hl ⊢
  have hl : lv_has ls 4 [(0, .ref (G 0 0)), (1, .int x0), (2, .int x1), (3, .int x2)] := hl
  rw [m_ST_valueOf] at hR
  refine lv_aload_n hx hb d_ST_valueOf_0 rfl (lv_at hl 0 rfl) ?_
  refine lv_iconst (v := 0) hx hb d_ST_valueOf_1 (by decide) ?_
  refine lv_iload_n hx hb d_ST_valueOf_2 rfl (lv_at hl 1 rfl) ?_
  refine lv_iload_n hx hb d_ST_valueOf_3 rfl (lv_at hl 2 rfl) ?_
  refine lv_iload_n hx hb d_ST_valueOf_4 rfl (lv_at hl 3 rfl) ?_
  refine lv_lconst (v := 0) hx hb d_ST_valueOf_5 (by decide) ?_
  obtain ⟨u_1, hq_1⟩ : ∃ z, m_ST_heard σ 0 x0 x1 x2 0 = some z := by
    cases hz : m_ST_heard σ 0 x0 x1 x2 0 with
    | none => rw [hz] at hR; cases hR
    | some z => exact ⟨z, rfl⟩
  rw [hq_1] at hR
  dsimp only at hR
  refine kV hC hB _ lkC_ST rfl (c_ST_heard σ π 0 x0 x1 x2 0 u_1 hq_1) allw_ok mf_ST_heard kw_805 ks_26 kw_803 ⟨rfl, rfl, Nat.le_of_ble_eq_true rfl, Nat.le_of_ble_eq_true rfl⟩ rfl rfl hl.1 (Nat.le_of_ble_eq_true rfl) d_ST_valueOf_6 ⟨Nat.le_of_ble_eq_true rfl, Nat.le_of_ble_eq_true rfl⟩ (roK fun H locs hB => ?_)
  obtain rfl := Option.some.inj hR
  exact rl hC hB rfl d_ST_valueOf_9

set_option maxHeartbeats 400000 in
set_option maxRecDepth 100000 in
theorem x_ST_valueOf (htl : l.stackTraces = false) (σ : SC) (π : PJ) (x0 : Int32) (x1 : Int32) (x2 : Int32) (hR : m_ST_valueOf σ x0 x1 x2 = none) : MX l y_ST_valueOf b_ST_valueOf 4 (some .long) { frames := 9, cells := 1, slots := 6, locals := 159 } D classes (tyL cI cL cQ) NWL ALLW N0 N1 [.ref (G 0 0), .int x0, .int x1, .int x2] (wsC G cI cL cQ σ π rest) "java/lang/IndexOutOfBoundsException" 1 6 := by
  refine mx_of (own := R_ST) (by decide) rfl nwl_ok ?_
  intro p e s m below meth c hC hex hSW hB
  have hB0 := hB
  have hx := hC.1
  have hb := hC.2.1
  have hl := lv_entry ([.ref (G 0 0), .int x0, .int x1, .int x2]) (n := 4) (Nat.le_of_ble_eq_true rfl)
  rw [lg_entry_eq]
  generalize (lg_sl ([.ref (G 0 0), .int x0, .int x1, .int x2]) ++ List.replicate (4 - (lg_sl ([.ref (G 0 0), .int x0, .int x1, .int x2])).length) Slot.unset).toArray = ls at hl ⊢
  have hl : lv_has ls 4 [(0, .ref (G 0 0)), (1, .int x0), (2, .int x1), (3, .int x2)] := hl
  rw [m_ST_valueOf] at hR
  refine lv_aload_n hx hb d_ST_valueOf_0 rfl (lv_at hl 0 rfl) ?_
  refine lv_iconst (v := 0) hx hb d_ST_valueOf_1 (by decide) ?_
  refine lv_iload_n hx hb d_ST_valueOf_2 rfl (lv_at hl 1 rfl) ?_
  refine lv_iload_n hx hb d_ST_valueOf_3 rfl (lv_at hl 2 rfl) ?_
  refine lv_iload_n hx hb d_ST_valueOf_4 rfl (lv_at hl 3 rfl) ?_
  refine lv_lconst (v := 0) hx hb d_ST_valueOf_5 (by decide) ?_
  rcases hq_1 : m_ST_heard σ 0 x0 x1 x2 0 with _ | u_1
  · refine kx hC hSW hB _ lkC_ST rfl (x_ST_heard htl σ π 0 x0 x1 x2 0 hq_1) allw_ok mf_ST_heard kw_805 ks_26 kw_803 ⟨rfl, rfl, Nat.le_of_ble_eq_true rfl, Nat.le_of_ble_eq_true rfl⟩ rfl rfl hl.1 (Nat.le_of_ble_eq_true rfl) d_ST_valueOf_6 ⟨Nat.le_of_ble_eq_true rfl, Nat.le_of_ble_eq_true rfl⟩ (fun q ce H locs hB h1 h2 h3 => ?_)
    exact tx_out hC hB (by rw [hex]; intro x hx; cases hx) h1 h2 h3 (Nat.le_of_ble_eq_true rfl) (Nat.le_of_ble_eq_true rfl)
  rw [hq_1] at hR
  dsimp only at hR
  refine kV hC hB _ lkC_ST rfl (c_ST_heard σ π 0 x0 x1 x2 0 u_1 hq_1) allw_ok mf_ST_heard kw_805 ks_26 kw_803 ⟨rfl, rfl, Nat.le_of_ble_eq_true rfl, Nat.le_of_ble_eq_true rfl⟩ rfl rfl hl.1 (Nat.le_of_ble_eq_true rfl) d_ST_valueOf_6 ⟨Nat.le_of_ble_eq_true rfl, Nat.le_of_ble_eq_true rfl⟩ (roK fun H locs hB => ?_)
  cases hR

set_option maxHeartbeats 400000 in
set_option maxRecDepth 100000 in
theorem c_ST_fitted (σ : SC) (π : PJ) (x0 : Int32) (x1 : Int32) (x2 : Int32) (RES : Bool) (hR : m_ST_fitted σ x0 x1 x2 = some RES) : CM l y_ST_fitted b_ST_fitted 4 (some .boolean) { frames := 6, cells := 0, slots := 0, locals := 147 } D (tyL cI cL cQ) N0 N1 [.ref (G 0 0), .int x0, .int x1, .int x2] (wsC G cI cL cQ σ π rest) (some (.int (bi RES))) (fun w => w = wsC G cI cL cQ σ π rest) 0 0 := by
  refine met_of (own := R_ST) (by decide) rfl nwl_ok ?_
  intro p e s m below meth c hC hin hB
  have hx := hC.1
  have hb := hC.2.1
  have hl := lv_entry ([.ref (G 0 0), .int x0, .int x1, .int x2]) (n := 4) (Nat.le_of_ble_eq_true rfl)
  rw [lg_entry_eq]
  generalize (lg_sl ([.ref (G 0 0), .int x0, .int x1, .int x2]) ++ List.replicate (4 - (lg_sl ([.ref (G 0 0), .int x0, .int x1, .int x2])).length) Slot.unset).toArray = ls at hl ⊢
  have hl : lv_has ls 4 [(0, .ref (G 0 0)), (1, .int x0), (2, .int x1), (3, .int x2)] := hl
  rw [m_ST_fitted] at hR
  refine lv_aload_n hx hb d_ST_fitted_0 rfl (lv_at hl 0 rfl) ?_
  refine lv_iconst (v := 1) hx hb d_ST_fitted_1 (by decide) ?_
  refine lv_iload_n hx hb d_ST_fitted_2 rfl (lv_at hl 1 rfl) ?_
  refine lv_iload_n hx hb d_ST_fitted_3 rfl (lv_at hl 2 rfl) ?_
  refine lv_iload_n hx hb d_ST_fitted_4 rfl (lv_at hl 3 rfl) ?_
  refine lv_lconst (v := 1) hx hb d_ST_fitted_5 (by decide) ?_
  obtain ⟨u_1, hq_1⟩ : ∃ z, m_ST_heard σ 1 x0 x1 x2 1 = some z := by
    cases hz : m_ST_heard σ 1 x0 x1 x2 1 with
    | none => rw [hz] at hR; cases hR
    | some z => exact ⟨z, rfl⟩
  rw [hq_1] at hR
  dsimp only at hR
  refine kV hC hB _ lkC_ST rfl (c_ST_heard σ π 1 x0 x1 x2 1 u_1 hq_1) allw_ok mf_ST_heard kw_805 ks_26 kw_803 ⟨rfl, rfl, Nat.le_of_ble_eq_true rfl, Nat.le_of_ble_eq_true rfl⟩ rfl rfl hl.1 (Nat.le_of_ble_eq_true rfl) d_ST_fitted_6 ⟨Nat.le_of_ble_eq_true rfl, Nat.le_of_ble_eq_true rfl⟩ (roK fun H locs hB => ?_)
  refine lv_lconst (v := 1) hx hb d_ST_fitted_9 (by decide) ?_
  refine W.lcmp hx hb d_ST_fitted_10 ?_
  refine lv_if_ne (tgt := 18) hx hb d_ST_fitted_11 (by decide) (fun c_2 => ?_) (fun c_2 => ?_)
  · rw [if_neg c_2] at hR
    refine lv_iconst (v := 0) hx hb d_ST_fitted_18 (by decide) ?_
    obtain rfl := Option.some.inj hR
    exact rz (b := false) hC hB rfl d_ST_fitted_19
  · rw [if_pos c_2] at hR
    refine lv_iconst (v := 1) hx hb d_ST_fitted_14 (by decide) ?_
    refine lv_goto (tgt := 19) hx hb d_ST_fitted_15 (by decide) ?_
    obtain rfl := Option.some.inj hR
    exact rz (b := true) hC hB rfl d_ST_fitted_19

set_option maxHeartbeats 400000 in
set_option maxRecDepth 100000 in
theorem x_ST_fitted (htl : l.stackTraces = false) (σ : SC) (π : PJ) (x0 : Int32) (x1 : Int32) (x2 : Int32) (hR : m_ST_fitted σ x0 x1 x2 = none) : MX l y_ST_fitted b_ST_fitted 4 (some .boolean) { frames := 9, cells := 1, slots := 6, locals := 159 } D classes (tyL cI cL cQ) NWL ALLW N0 N1 [.ref (G 0 0), .int x0, .int x1, .int x2] (wsC G cI cL cQ σ π rest) "java/lang/IndexOutOfBoundsException" 1 6 := by
  refine mx_of (own := R_ST) (by decide) rfl nwl_ok ?_
  intro p e s m below meth c hC hex hSW hB
  have hB0 := hB
  have hx := hC.1
  have hb := hC.2.1
  have hl := lv_entry ([.ref (G 0 0), .int x0, .int x1, .int x2]) (n := 4) (Nat.le_of_ble_eq_true rfl)
  rw [lg_entry_eq]
  generalize (lg_sl ([.ref (G 0 0), .int x0, .int x1, .int x2]) ++ List.replicate (4 - (lg_sl ([.ref (G 0 0), .int x0, .int x1, .int x2])).length) Slot.unset).toArray = ls at hl ⊢
  have hl : lv_has ls 4 [(0, .ref (G 0 0)), (1, .int x0), (2, .int x1), (3, .int x2)] := hl
  rw [m_ST_fitted] at hR
  refine lv_aload_n hx hb d_ST_fitted_0 rfl (lv_at hl 0 rfl) ?_
  refine lv_iconst (v := 1) hx hb d_ST_fitted_1 (by decide) ?_
  refine lv_iload_n hx hb d_ST_fitted_2 rfl (lv_at hl 1 rfl) ?_
  refine lv_iload_n hx hb d_ST_fitted_3 rfl (lv_at hl 2 rfl) ?_
  refine lv_iload_n hx hb d_ST_fitted_4 rfl (lv_at hl 3 rfl) ?_
  refine lv_lconst (v := 1) hx hb d_ST_fitted_5 (by decide) ?_
  rcases hq_1 : m_ST_heard σ 1 x0 x1 x2 1 with _ | u_1
  · refine kx hC hSW hB _ lkC_ST rfl (x_ST_heard htl σ π 1 x0 x1 x2 1 hq_1) allw_ok mf_ST_heard kw_805 ks_26 kw_803 ⟨rfl, rfl, Nat.le_of_ble_eq_true rfl, Nat.le_of_ble_eq_true rfl⟩ rfl rfl hl.1 (Nat.le_of_ble_eq_true rfl) d_ST_fitted_6 ⟨Nat.le_of_ble_eq_true rfl, Nat.le_of_ble_eq_true rfl⟩ (fun q ce H locs hB h1 h2 h3 => ?_)
    exact tx_out hC hB (by rw [hex]; intro x hx; cases hx) h1 h2 h3 (Nat.le_of_ble_eq_true rfl) (Nat.le_of_ble_eq_true rfl)
  rw [hq_1] at hR
  dsimp only at hR
  refine kV hC hB _ lkC_ST rfl (c_ST_heard σ π 1 x0 x1 x2 1 u_1 hq_1) allw_ok mf_ST_heard kw_805 ks_26 kw_803 ⟨rfl, rfl, Nat.le_of_ble_eq_true rfl, Nat.le_of_ble_eq_true rfl⟩ rfl rfl hl.1 (Nat.le_of_ble_eq_true rfl) d_ST_fitted_6 ⟨Nat.le_of_ble_eq_true rfl, Nat.le_of_ble_eq_true rfl⟩ (roK fun H locs hB => ?_)
  refine lv_lconst (v := 1) hx hb d_ST_fitted_9 (by decide) ?_
  refine W.lcmp hx hb d_ST_fitted_10 ?_
  refine lv_if_ne (tgt := 18) hx hb d_ST_fitted_11 (by decide) (fun c_2 => ?_) (fun c_2 => ?_)
  · rw [if_neg c_2] at hR
    refine lv_iconst (v := 0) hx hb d_ST_fitted_18 (by decide) ?_
    cases hR
  · rw [if_pos c_2] at hR
    refine lv_iconst (v := 1) hx hb d_ST_fitted_14 (by decide) ?_
    refine lv_goto (tgt := 19) hx hb d_ST_fitted_15 (by decide) ?_
    cases hR

set_option maxHeartbeats 400000 in
set_option maxRecDepth 100000 in
theorem c_ST_units (σ : SC) (π : PJ) (x0 : Int32) (RES : Int32) (hR : m_ST_units σ x0 = some RES) : CM l y_ST_units b_ST_units 2 (some .int) { frames := 3, cells := 0, slots := 0, locals := 66 } D (tyL cI cL cQ) N0 N1 [.ref (G 0 0), .int x0] (wsC G cI cL cQ σ π rest) (some (.int RES)) (fun w => w = wsC G cI cL cQ σ π rest) 0 0 := by
  refine met_of (own := R_ST) (by decide) rfl nwl_ok ?_
  intro p e s m below meth c hC hin hB
  have hx := hC.1
  have hb := hC.2.1
  have hl := lv_entry ([.ref (G 0 0), .int x0]) (n := 2) (Nat.le_of_ble_eq_true rfl)
  rw [lg_entry_eq]
  generalize (lg_sl ([.ref (G 0 0), .int x0]) ++ List.replicate (2 - (lg_sl ([.ref (G 0 0), .int x0])).length) Slot.unset).toArray = ls at hl ⊢
  have hl : lv_has ls 2 [(0, .ref (G 0 0)), (1, .int x0)] := hl
  rw [m_ST_units] at hR
  refine lv_aload_n hx hb d_ST_units_0 rfl (lv_at hl 0 rfl) ?_
  refine lv_iload_n hx hb d_ST_units_1 rfl (lv_at hl 1 rfl) ?_
  obtain ⟨u_1, hq_1⟩ : ∃ z, m_ST_needPart σ x0 = some z := by
    cases hz : m_ST_needPart σ x0 with
    | none => rw [hz] at hR; cases hR
    | some z => exact ⟨z, rfl⟩
  rw [hq_1] at hR
  dsimp only at hR
  refine kV hC hB _ lkC_ST rfl (c_ST_needPart σ π x0 u_1 hq_1) allw_ok mf_ST_needPart kw_628 ks_14 kw_626 ⟨rfl, rfl, Nat.le_of_ble_eq_true rfl, Nat.le_of_ble_eq_true rfl⟩ rfl rfl hl.1 (Nat.le_of_ble_eq_true rfl) d_ST_units_2 ⟨Nat.le_of_ble_eq_true rfl, Nat.le_of_ble_eq_true rfl⟩ (roK fun H locs hB => ?_)
  refine lv_aload_n hx hb d_ST_units_5 rfl (lv_at hl 0 rfl) ?_
  refine gt hC hB _ lkC_ST rfl i_ST 3 (by decide) rfl kw_259 rfl d_ST_units_6 ?_
  refine lv_iload_n hx hb d_ST_units_9 rfl (lv_at hl 1 rfl) ?_
  refine kV hC hB _ lkC_Parts rfl (c_Parts_unitCount σ π x0) allw_ok mf_Parts_unitCount kw_839 kw_840 kw_838 ⟨rfl, rfl, Nat.le_of_ble_eq_true rfl, Nat.le_of_ble_eq_true rfl⟩ rfl rfl hl.1 (Nat.le_of_ble_eq_true rfl) d_ST_units_10 ⟨Nat.le_of_ble_eq_true rfl, Nat.le_of_ble_eq_true rfl⟩ (roK fun H locs hB => ?_)
  obtain rfl := Option.some.inj hR
  exact ri hC hB rfl d_ST_units_13

set_option maxHeartbeats 400000 in
set_option maxRecDepth 100000 in
theorem x_ST_units (htl : l.stackTraces = false) (σ : SC) (π : PJ) (x0 : Int32) (hR : m_ST_units σ x0 = none) : MX l y_ST_units b_ST_units 2 (some .int) { frames := 7, cells := 1, slots := 6, locals := 111 } D classes (tyL cI cL cQ) NWL ALLW N0 N1 [.ref (G 0 0), .int x0] (wsC G cI cL cQ σ π rest) "java/lang/IndexOutOfBoundsException" 1 6 := by
  refine mx_of (own := R_ST) (by decide) rfl nwl_ok ?_
  intro p e s m below meth c hC hex hSW hB
  have hB0 := hB
  have hx := hC.1
  have hb := hC.2.1
  have hl := lv_entry ([.ref (G 0 0), .int x0]) (n := 2) (Nat.le_of_ble_eq_true rfl)
  rw [lg_entry_eq]
  generalize (lg_sl ([.ref (G 0 0), .int x0]) ++ List.replicate (2 - (lg_sl ([.ref (G 0 0), .int x0])).length) Slot.unset).toArray = ls at hl ⊢
  have hl : lv_has ls 2 [(0, .ref (G 0 0)), (1, .int x0)] := hl
  rw [m_ST_units] at hR
  refine lv_aload_n hx hb d_ST_units_0 rfl (lv_at hl 0 rfl) ?_
  refine lv_iload_n hx hb d_ST_units_1 rfl (lv_at hl 1 rfl) ?_
  rcases hq_1 : m_ST_needPart σ x0 with _ | u_1
  · refine kx hC hSW hB _ lkC_ST rfl (x_ST_needPart htl σ π x0 hq_1) allw_ok mf_ST_needPart kw_628 ks_14 kw_626 ⟨rfl, rfl, Nat.le_of_ble_eq_true rfl, Nat.le_of_ble_eq_true rfl⟩ rfl rfl hl.1 (Nat.le_of_ble_eq_true rfl) d_ST_units_2 ⟨Nat.le_of_ble_eq_true rfl, Nat.le_of_ble_eq_true rfl⟩ (fun q ce H locs hB h1 h2 h3 => ?_)
    exact tx_out hC hB (by rw [hex]; intro x hx; cases hx) h1 h2 h3 (Nat.le_of_ble_eq_true rfl) (Nat.le_of_ble_eq_true rfl)
  rw [hq_1] at hR
  dsimp only at hR
  refine kV hC hB _ lkC_ST rfl (c_ST_needPart σ π x0 u_1 hq_1) allw_ok mf_ST_needPart kw_628 ks_14 kw_626 ⟨rfl, rfl, Nat.le_of_ble_eq_true rfl, Nat.le_of_ble_eq_true rfl⟩ rfl rfl hl.1 (Nat.le_of_ble_eq_true rfl) d_ST_units_2 ⟨Nat.le_of_ble_eq_true rfl, Nat.le_of_ble_eq_true rfl⟩ (roK fun H locs hB => ?_)
  refine lv_aload_n hx hb d_ST_units_5 rfl (lv_at hl 0 rfl) ?_
  refine gt hC hB _ lkC_ST rfl i_ST 3 (by decide) rfl kw_259 rfl d_ST_units_6 ?_
  refine lv_iload_n hx hb d_ST_units_9 rfl (lv_at hl 1 rfl) ?_
  refine kV hC hB _ lkC_Parts rfl (c_Parts_unitCount σ π x0) allw_ok mf_Parts_unitCount kw_839 kw_840 kw_838 ⟨rfl, rfl, Nat.le_of_ble_eq_true rfl, Nat.le_of_ble_eq_true rfl⟩ rfl rfl hl.1 (Nat.le_of_ble_eq_true rfl) d_ST_units_10 ⟨Nat.le_of_ble_eq_true rfl, Nat.le_of_ble_eq_true rfl⟩ (roK fun H locs hB => ?_)
  cases hR

set_option maxHeartbeats 400000 in
set_option maxRecDepth 100000 in
theorem c_ST_where (σ : SC) (π : PJ) (x0 : Int32) (x1 : Int32) (x2 : Int32) (RES : Int32) (hR : m_ST_where σ x0 x1 x2 = some RES) : CM l y_ST_where b_ST_where 4 (some .int) { frames := 4, cells := 0, slots := 0, locals := 88 } D (tyL cI cL cQ) N0 N1 [.ref (G 0 0), .int x0, .int x1, .int x2] (wsC G cI cL cQ σ π rest) (some (.int RES)) (fun w => w = wsC G cI cL cQ σ π rest) 0 0 := by
  refine met_of (own := R_ST) (by decide) rfl nwl_ok ?_
  intro p e s m below meth c hC hin hB
  have hx := hC.1
  have hb := hC.2.1
  have hl := lv_entry ([.ref (G 0 0), .int x0, .int x1, .int x2]) (n := 4) (Nat.le_of_ble_eq_true rfl)
  rw [lg_entry_eq]
  generalize (lg_sl ([.ref (G 0 0), .int x0, .int x1, .int x2]) ++ List.replicate (4 - (lg_sl ([.ref (G 0 0), .int x0, .int x1, .int x2])).length) Slot.unset).toArray = ls at hl ⊢
  have hl : lv_has ls 4 [(0, .ref (G 0 0)), (1, .int x0), (2, .int x1), (3, .int x2)] := hl
  rw [m_ST_where] at hR
  refine lv_aload_n hx hb d_ST_where_0 rfl (lv_at hl 0 rfl) ?_
  refine lv_iload_n hx hb d_ST_where_1 rfl (lv_at hl 1 rfl) ?_
  obtain ⟨u_1, hq_1⟩ : ∃ z, m_ST_needPart σ x0 = some z := by
    cases hz : m_ST_needPart σ x0 with
    | none => rw [hz] at hR; cases hR
    | some z => exact ⟨z, rfl⟩
  rw [hq_1] at hR
  dsimp only at hR
  refine kV hC hB _ lkC_ST rfl (c_ST_needPart σ π x0 u_1 hq_1) allw_ok mf_ST_needPart kw_628 ks_14 kw_626 ⟨rfl, rfl, Nat.le_of_ble_eq_true rfl, Nat.le_of_ble_eq_true rfl⟩ rfl rfl hl.1 (Nat.le_of_ble_eq_true rfl) d_ST_where_2 ⟨Nat.le_of_ble_eq_true rfl, Nat.le_of_ble_eq_true rfl⟩ (roK fun H locs hB => ?_)
  refine lv_aload_n hx hb d_ST_where_5 rfl (lv_at hl 0 rfl) ?_
  refine lv_iload_n hx hb d_ST_where_6 rfl (lv_at hl 1 rfl) ?_
  refine lv_iload_n hx hb d_ST_where_7 rfl (lv_at hl 2 rfl) ?_
  obtain ⟨u_2, hq_2⟩ : ∃ z, m_ST_needUnit σ x0 x1 = some z := by
    cases hz : m_ST_needUnit σ x0 x1 with
    | none => rw [hz] at hR; cases hR
    | some z => exact ⟨z, rfl⟩
  rw [hq_2] at hR
  dsimp only at hR
  refine kV hC hB _ lkC_ST rfl (c_ST_needUnit σ π x0 x1 u_2 hq_2) allw_ok mf_ST_needUnit kw_854 ks_27 kw_852 ⟨rfl, rfl, Nat.le_of_ble_eq_true rfl, Nat.le_of_ble_eq_true rfl⟩ rfl rfl hl.1 (Nat.le_of_ble_eq_true rfl) d_ST_where_8 ⟨Nat.le_of_ble_eq_true rfl, Nat.le_of_ble_eq_true rfl⟩ (roK fun H locs hB => ?_)
  refine lv_aload_n hx hb d_ST_where_11 rfl (lv_at hl 0 rfl) ?_
  refine lv_iload_n hx hb d_ST_where_12 rfl (lv_at hl 1 rfl) ?_
  refine lv_iload_n hx hb d_ST_where_13 rfl (lv_at hl 3 rfl) ?_
  obtain ⟨u_3, hq_3⟩ : ∃ z, m_ST_needGate σ x0 x2 = some z := by
    cases hz : m_ST_needGate σ x0 x2 with
    | none => rw [hz] at hR; cases hR
    | some z => exact ⟨z, rfl⟩
  rw [hq_3] at hR
  dsimp only at hR
  refine kV hC hB _ lkC_ST rfl (c_ST_needGate σ π x0 x2 u_3 hq_3) allw_ok mf_ST_needGate kw_637 ks_15 kw_635 ⟨rfl, rfl, Nat.le_of_ble_eq_true rfl, Nat.le_of_ble_eq_true rfl⟩ rfl rfl hl.1 (Nat.le_of_ble_eq_true rfl) d_ST_where_14 ⟨Nat.le_of_ble_eq_true rfl, Nat.le_of_ble_eq_true rfl⟩ (roK fun H locs hB => ?_)
  refine lv_aload_n hx hb d_ST_where_17 rfl (lv_at hl 0 rfl) ?_
  refine gt hC hB _ lkC_ST rfl i_ST 2 (by decide) rfl kw_258 rfl d_ST_where_18 ?_
  refine lv_aload_n hx hb d_ST_where_21 rfl (lv_at hl 0 rfl) ?_
  refine gt hC hB _ lkC_ST rfl i_ST 3 (by decide) rfl kw_259 rfl d_ST_where_22 ?_
  refine lv_iload_n hx hb d_ST_where_25 rfl (lv_at hl 1 rfl) ?_
  refine lv_iload_n hx hb d_ST_where_26 rfl (lv_at hl 3 rfl) ?_
  refine kV hC hB _ lkC_Parts rfl (c_Parts_sheetOfGate σ π x0 x2) allw_ok mf_Parts_sheetOfGate kw_645 kw_646 kw_644 ⟨rfl, rfl, Nat.le_of_ble_eq_true rfl, Nat.le_of_ble_eq_true rfl⟩ rfl rfl hl.1 (Nat.le_of_ble_eq_true rfl) d_ST_where_27 ⟨Nat.le_of_ble_eq_true rfl, Nat.le_of_ble_eq_true rfl⟩ (roK fun H locs hB => ?_)
  refine lv_iload_n hx hb d_ST_where_30 rfl (lv_at hl 2 rfl) ?_
  refine kV hC hB _ lkC_Book rfl (c_Book_pageOfComing σ π (m_Parts_sheetOfGate σ x0 x2) x1) allw_ok mf_Book_pageOfComing kw_858 kw_859 kw_857 ⟨rfl, rfl, Nat.le_of_ble_eq_true rfl, Nat.le_of_ble_eq_true rfl⟩ rfl rfl hl.1 (Nat.le_of_ble_eq_true rfl) d_ST_where_31 ⟨Nat.le_of_ble_eq_true rfl, Nat.le_of_ble_eq_true rfl⟩ (roK fun H locs hB => ?_)
  obtain rfl := Option.some.inj hR
  exact ri hC hB rfl d_ST_where_34

set_option maxHeartbeats 400000 in
set_option maxRecDepth 100000 in
theorem x_ST_where (htl : l.stackTraces = false) (σ : SC) (π : PJ) (x0 : Int32) (x1 : Int32) (x2 : Int32) (hR : m_ST_where σ x0 x1 x2 = none) : MX l y_ST_where b_ST_where 4 (some .int) { frames := 7, cells := 1, slots := 6, locals := 112 } D classes (tyL cI cL cQ) NWL ALLW N0 N1 [.ref (G 0 0), .int x0, .int x1, .int x2] (wsC G cI cL cQ σ π rest) "java/lang/IndexOutOfBoundsException" 1 6 := by
  refine mx_of (own := R_ST) (by decide) rfl nwl_ok ?_
  intro p e s m below meth c hC hex hSW hB
  have hB0 := hB
  have hx := hC.1
  have hb := hC.2.1
  have hl := lv_entry ([.ref (G 0 0), .int x0, .int x1, .int x2]) (n := 4) (Nat.le_of_ble_eq_true rfl)
  rw [lg_entry_eq]
  generalize (lg_sl ([.ref (G 0 0), .int x0, .int x1, .int x2]) ++ List.replicate (4 - (lg_sl ([.ref (G 0 0), .int x0, .int x1, .int x2])).length) Slot.unset).toArray = ls at hl ⊢
  have hl : lv_has ls 4 [(0, .ref (G 0 0)), (1, .int x0), (2, .int x1), (3, .int x2)] := hl
  rw [m_ST_where] at hR
  refine lv_aload_n hx hb d_ST_where_0 rfl (lv_at hl 0 rfl) ?_
  refine lv_iload_n hx hb d_ST_where_1 rfl (lv_at hl 1 rfl) ?_
  rcases hq_1 : m_ST_needPart σ x0 with _ | u_1
  · refine kx hC hSW hB _ lkC_ST rfl (x_ST_needPart htl σ π x0 hq_1) allw_ok mf_ST_needPart kw_628 ks_14 kw_626 ⟨rfl, rfl, Nat.le_of_ble_eq_true rfl, Nat.le_of_ble_eq_true rfl⟩ rfl rfl hl.1 (Nat.le_of_ble_eq_true rfl) d_ST_where_2 ⟨Nat.le_of_ble_eq_true rfl, Nat.le_of_ble_eq_true rfl⟩ (fun q ce H locs hB h1 h2 h3 => ?_)
    exact tx_out hC hB (by rw [hex]; intro x hx; cases hx) h1 h2 h3 (Nat.le_of_ble_eq_true rfl) (Nat.le_of_ble_eq_true rfl)
  rw [hq_1] at hR
  dsimp only at hR
  refine kV hC hB _ lkC_ST rfl (c_ST_needPart σ π x0 u_1 hq_1) allw_ok mf_ST_needPart kw_628 ks_14 kw_626 ⟨rfl, rfl, Nat.le_of_ble_eq_true rfl, Nat.le_of_ble_eq_true rfl⟩ rfl rfl hl.1 (Nat.le_of_ble_eq_true rfl) d_ST_where_2 ⟨Nat.le_of_ble_eq_true rfl, Nat.le_of_ble_eq_true rfl⟩ (roK fun H locs hB => ?_)
  refine lv_aload_n hx hb d_ST_where_5 rfl (lv_at hl 0 rfl) ?_
  refine lv_iload_n hx hb d_ST_where_6 rfl (lv_at hl 1 rfl) ?_
  refine lv_iload_n hx hb d_ST_where_7 rfl (lv_at hl 2 rfl) ?_
  rcases hq_2 : m_ST_needUnit σ x0 x1 with _ | u_2
  · refine kx hC hSW hB _ lkC_ST rfl (x_ST_needUnit htl σ π x0 x1 hq_2) allw_ok mf_ST_needUnit kw_854 ks_27 kw_852 ⟨rfl, rfl, Nat.le_of_ble_eq_true rfl, Nat.le_of_ble_eq_true rfl⟩ rfl rfl hl.1 (Nat.le_of_ble_eq_true rfl) d_ST_where_8 ⟨Nat.le_of_ble_eq_true rfl, Nat.le_of_ble_eq_true rfl⟩ (fun q ce H locs hB h1 h2 h3 => ?_)
    exact tx_out hC hB (by rw [hex]; intro x hx; cases hx) h1 h2 h3 (Nat.le_of_ble_eq_true rfl) (Nat.le_of_ble_eq_true rfl)
  rw [hq_2] at hR
  dsimp only at hR
  refine kV hC hB _ lkC_ST rfl (c_ST_needUnit σ π x0 x1 u_2 hq_2) allw_ok mf_ST_needUnit kw_854 ks_27 kw_852 ⟨rfl, rfl, Nat.le_of_ble_eq_true rfl, Nat.le_of_ble_eq_true rfl⟩ rfl rfl hl.1 (Nat.le_of_ble_eq_true rfl) d_ST_where_8 ⟨Nat.le_of_ble_eq_true rfl, Nat.le_of_ble_eq_true rfl⟩ (roK fun H locs hB => ?_)
  refine lv_aload_n hx hb d_ST_where_11 rfl (lv_at hl 0 rfl) ?_
  refine lv_iload_n hx hb d_ST_where_12 rfl (lv_at hl 1 rfl) ?_
  refine lv_iload_n hx hb d_ST_where_13 rfl (lv_at hl 3 rfl) ?_
  rcases hq_3 : m_ST_needGate σ x0 x2 with _ | u_3
  · refine kx hC hSW hB _ lkC_ST rfl (x_ST_needGate htl σ π x0 x2 hq_3) allw_ok mf_ST_needGate kw_637 ks_15 kw_635 ⟨rfl, rfl, Nat.le_of_ble_eq_true rfl, Nat.le_of_ble_eq_true rfl⟩ rfl rfl hl.1 (Nat.le_of_ble_eq_true rfl) d_ST_where_14 ⟨Nat.le_of_ble_eq_true rfl, Nat.le_of_ble_eq_true rfl⟩ (fun q ce H locs hB h1 h2 h3 => ?_)
    exact tx_out hC hB (by rw [hex]; intro x hx; cases hx) h1 h2 h3 (Nat.le_of_ble_eq_true rfl) (Nat.le_of_ble_eq_true rfl)
  rw [hq_3] at hR
  dsimp only at hR
  refine kV hC hB _ lkC_ST rfl (c_ST_needGate σ π x0 x2 u_3 hq_3) allw_ok mf_ST_needGate kw_637 ks_15 kw_635 ⟨rfl, rfl, Nat.le_of_ble_eq_true rfl, Nat.le_of_ble_eq_true rfl⟩ rfl rfl hl.1 (Nat.le_of_ble_eq_true rfl) d_ST_where_14 ⟨Nat.le_of_ble_eq_true rfl, Nat.le_of_ble_eq_true rfl⟩ (roK fun H locs hB => ?_)
  refine lv_aload_n hx hb d_ST_where_17 rfl (lv_at hl 0 rfl) ?_
  refine gt hC hB _ lkC_ST rfl i_ST 2 (by decide) rfl kw_258 rfl d_ST_where_18 ?_
  refine lv_aload_n hx hb d_ST_where_21 rfl (lv_at hl 0 rfl) ?_
  refine gt hC hB _ lkC_ST rfl i_ST 3 (by decide) rfl kw_259 rfl d_ST_where_22 ?_
  refine lv_iload_n hx hb d_ST_where_25 rfl (lv_at hl 1 rfl) ?_
  refine lv_iload_n hx hb d_ST_where_26 rfl (lv_at hl 3 rfl) ?_
  refine kV hC hB _ lkC_Parts rfl (c_Parts_sheetOfGate σ π x0 x2) allw_ok mf_Parts_sheetOfGate kw_645 kw_646 kw_644 ⟨rfl, rfl, Nat.le_of_ble_eq_true rfl, Nat.le_of_ble_eq_true rfl⟩ rfl rfl hl.1 (Nat.le_of_ble_eq_true rfl) d_ST_where_27 ⟨Nat.le_of_ble_eq_true rfl, Nat.le_of_ble_eq_true rfl⟩ (roK fun H locs hB => ?_)
  refine lv_iload_n hx hb d_ST_where_30 rfl (lv_at hl 2 rfl) ?_
  refine kV hC hB _ lkC_Book rfl (c_Book_pageOfComing σ π (m_Parts_sheetOfGate σ x0 x2) x1) allw_ok mf_Book_pageOfComing kw_858 kw_859 kw_857 ⟨rfl, rfl, Nat.le_of_ble_eq_true rfl, Nat.le_of_ble_eq_true rfl⟩ rfl rfl hl.1 (Nat.le_of_ble_eq_true rfl) d_ST_where_31 ⟨Nat.le_of_ble_eq_true rfl, Nat.le_of_ble_eq_true rfl⟩ (roK fun H locs hB => ?_)
  cases hR

set_option maxHeartbeats 400000 in
set_option maxRecDepth 100000 in
theorem c_ST_name (σ : SC) (π : PJ) (x0 : Int32) (x1 : Int32) (RES : Int32 × SC) (hR : m_ST_name σ x0 x1 = some RES) : CM l y_ST_name b_ST_name 4 (some .int) { frames := 5, cells := 0, slots := 0, locals := 118 } D (tyL cI cL cQ) N0 N0 [.ref (G 0 0), .int x0, .int x1] (wsC G cI cL cQ σ π rest) (some (.int RES.1)) (fun w => w = wsC G cI cL cQ RES.2 π rest) 0 0 := by
  obtain ⟨RV, RS⟩ := RES
  dsimp only
  refine met_of (own := R_ST) (by decide) rfl nwl_ok ?_
  intro p e s m below meth c hC hin hB
  have hx := hC.1
  have hb := hC.2.1
  have hl := lv_entry ([.ref (G 0 0), .int x0, .int x1]) (n := 4) (Nat.le_of_ble_eq_true rfl)
  rw [lg_entry_eq]
  generalize (lg_sl ([.ref (G 0 0), .int x0, .int x1]) ++ List.replicate (4 - (lg_sl ([.ref (G 0 0), .int x0, .int x1])).length) Slot.unset).toArray = ls at hl ⊢
  have hl : lv_has ls 4 [(0, .ref (G 0 0)), (1, .int x0), (2, .int x1)] := hl
  rw [m_ST_name] at hR
  refine lv_aload_n hx hb d_ST_name_0 rfl (lv_at hl 0 rfl) ?_
  refine lv_iload_n hx hb d_ST_name_1 rfl (lv_at hl 1 rfl) ?_
  obtain ⟨u_1, hq_1⟩ : ∃ z, m_ST_needPart σ x0 = some z := by
    cases hz : m_ST_needPart σ x0 with
    | none => rw [hz] at hR; cases hR
    | some z => exact ⟨z, rfl⟩
  rw [hq_1] at hR
  dsimp only at hR
  refine kV hC hB _ lkC_ST rfl (c_ST_needPart σ π x0 u_1 hq_1) allw_ok mf_ST_needPart kw_628 ks_14 kw_626 ⟨rfl, rfl, Nat.le_of_ble_eq_true rfl, Nat.le_of_ble_eq_true rfl⟩ rfl rfl hl.1 (Nat.le_of_ble_eq_true rfl) d_ST_name_2 ⟨Nat.le_of_ble_eq_true rfl, Nat.le_of_ble_eq_true rfl⟩ (roK fun H locs hB => ?_)
  refine lv_aload_n hx hb d_ST_name_5 rfl (lv_at hl 0 rfl) ?_
  refine lv_iload_n hx hb d_ST_name_6 rfl (lv_at hl 1 rfl) ?_
  refine lv_iload_n hx hb d_ST_name_7 rfl (lv_at hl 2 rfl) ?_
  obtain ⟨u_2, hq_2⟩ : ∃ z, m_ST_needUnit σ x0 x1 = some z := by
    cases hz : m_ST_needUnit σ x0 x1 with
    | none => rw [hz] at hR; cases hR
    | some z => exact ⟨z, rfl⟩
  rw [hq_2] at hR
  dsimp only at hR
  refine kV hC hB _ lkC_ST rfl (c_ST_needUnit σ π x0 x1 u_2 hq_2) allw_ok mf_ST_needUnit kw_854 ks_27 kw_852 ⟨rfl, rfl, Nat.le_of_ble_eq_true rfl, Nat.le_of_ble_eq_true rfl⟩ rfl rfl hl.1 (Nat.le_of_ble_eq_true rfl) d_ST_name_8 ⟨Nat.le_of_ble_eq_true rfl, Nat.le_of_ble_eq_true rfl⟩ (roK fun H locs hB => ?_)
  refine lv_aload_n hx hb d_ST_name_11 rfl (lv_at hl 0 rfl) ?_
  refine gt hC hB _ lkC_ST rfl i_ST 3 (by decide) rfl kw_259 rfl d_ST_name_12 ?_
  refine lv_iload_n hx hb d_ST_name_15 rfl (lv_at hl 1 rfl) ?_
  refine lv_iload_n hx hb d_ST_name_16 rfl (lv_at hl 2 rfl) ?_
  refine lv_aload_n hx hb d_ST_name_17 rfl (lv_at hl 0 rfl) ?_
  refine gt hC hB _ lkC_ST rfl i_ST 5 (by decide) rfl kw_261 rfl d_ST_name_18 ?_
  refine lv_iconst (v := 0) hx hb d_ST_name_21 (by decide) ?_
  refine kV hC hB _ (lkC_row (by decide)) rfl (c_Row_at 18 (by decide) σ π 0) allw_ok mf_Row_at kw_233 kw_234 kw_713 ⟨rfl, rfl, Nat.le_of_ble_eq_true rfl, Nat.le_of_ble_eq_true rfl⟩ rfl rfl hl.1 (Nat.le_of_ble_eq_true rfl) d_ST_name_22 ⟨Nat.le_of_ble_eq_true rfl, Nat.le_of_ble_eq_true rfl⟩ (roK fun H locs hB => ?_)
  refine lv_iconst (v := 1) hx hb d_ST_name_25 (by decide) ?_
  refine lv_icmp_ne (tgt := 33) hx hb d_ST_name_26 (by decide) (fun c_3 => ?_) (fun c_3 => ?_)
  · rw [if_neg c_3] at hR
    refine lv_iconst (v := 0) hx hb d_ST_name_33 (by decide) ?_
    refine kV hC hB _ lkC_Parts rfl (c_Parts_numberOf σ π x0 x1 false) allw_ok mf_Parts_numberOf kw_873 kw_874 kw_872 ⟨rfl, rfl, Nat.le_of_ble_eq_true rfl, Nat.le_of_ble_eq_true rfl⟩ rfl rfl hl.1 (Nat.le_of_ble_eq_true rfl) d_ST_name_34 ⟨Nat.le_of_ble_eq_true rfl, Nat.le_of_ble_eq_true rfl⟩ (roK fun H locs hB => ?_)
    refine lv_istore_n (lv' := [(3, .int ((m_Parts_numberOf σ x0 x1 false).1)), (0, .ref (G 0 0)), (1, .int x0), (2, .int x1)]) hx hb d_ST_name_37 rfl hl (by decide) rfl (fun ls hl => ?_)
    refine lv_aload_n hx hb d_ST_name_38 rfl (lv_at hl 1 rfl) ?_
    refine gt hC hB _ lkC_ST rfl i_ST 3 (by decide) rfl kw_259 rfl d_ST_name_39 ?_
    refine lv_iload_n hx hb d_ST_name_42 rfl (lv_at hl 2 rfl) ?_
    refine kV hC hB _ lkC_Parts rfl (c_Parts_letterOf ((m_Parts_numberOf σ x0 x1 false).2) π x0) allw_ok mf_Parts_letterOf kw_699 kw_700 kw_883 ⟨rfl, rfl, Nat.le_of_ble_eq_true rfl, Nat.le_of_ble_eq_true rfl⟩ rfl rfl hl.1 (Nat.le_of_ble_eq_true rfl) d_ST_name_43 ⟨Nat.le_of_ble_eq_true rfl, Nat.le_of_ble_eq_true rfl⟩ (roK fun H locs hB => ?_)
    refine lv_sipush (v := 10000) hx hb d_ST_name_46 (by decide) ?_
    refine lv_imul hx hb d_ST_name_49 ?_
    refine lv_iload_n hx hb d_ST_name_50 rfl (lv_at hl 0 rfl) ?_
    refine lv_iadd hx hb d_ST_name_51 ?_
    obtain ⟨rfl, rfl⟩ := Prod.mk.inj (Option.some.inj hR)
    exact ri hC hB rfl d_ST_name_52
  · rw [if_pos c_3] at hR
    refine lv_iconst (v := 1) hx hb d_ST_name_29 (by decide) ?_
    refine lv_goto (tgt := 34) hx hb d_ST_name_30 (by decide) ?_
    refine kV hC hB _ lkC_Parts rfl (c_Parts_numberOf σ π x0 x1 true) allw_ok mf_Parts_numberOf kw_873 kw_874 kw_872 ⟨rfl, rfl, Nat.le_of_ble_eq_true rfl, Nat.le_of_ble_eq_true rfl⟩ rfl rfl hl.1 (Nat.le_of_ble_eq_true rfl) d_ST_name_34 ⟨Nat.le_of_ble_eq_true rfl, Nat.le_of_ble_eq_true rfl⟩ (roK fun H locs hB => ?_)
    refine lv_istore_n (lv' := [(3, .int ((m_Parts_numberOf σ x0 x1 true).1)), (0, .ref (G 0 0)), (1, .int x0), (2, .int x1)]) hx hb d_ST_name_37 rfl hl (by decide) rfl (fun ls hl => ?_)
    refine lv_aload_n hx hb d_ST_name_38 rfl (lv_at hl 1 rfl) ?_
    refine gt hC hB _ lkC_ST rfl i_ST 3 (by decide) rfl kw_259 rfl d_ST_name_39 ?_
    refine lv_iload_n hx hb d_ST_name_42 rfl (lv_at hl 2 rfl) ?_
    refine kV hC hB _ lkC_Parts rfl (c_Parts_letterOf ((m_Parts_numberOf σ x0 x1 true).2) π x0) allw_ok mf_Parts_letterOf kw_699 kw_700 kw_883 ⟨rfl, rfl, Nat.le_of_ble_eq_true rfl, Nat.le_of_ble_eq_true rfl⟩ rfl rfl hl.1 (Nat.le_of_ble_eq_true rfl) d_ST_name_43 ⟨Nat.le_of_ble_eq_true rfl, Nat.le_of_ble_eq_true rfl⟩ (roK fun H locs hB => ?_)
    refine lv_sipush (v := 10000) hx hb d_ST_name_46 (by decide) ?_
    refine lv_imul hx hb d_ST_name_49 ?_
    refine lv_iload_n hx hb d_ST_name_50 rfl (lv_at hl 0 rfl) ?_
    refine lv_iadd hx hb d_ST_name_51 ?_
    obtain ⟨rfl, rfl⟩ := Prod.mk.inj (Option.some.inj hR)
    exact ri hC hB rfl d_ST_name_52

set_option maxHeartbeats 400000 in
set_option maxRecDepth 100000 in
theorem x_ST_name (htl : l.stackTraces = false) (σ : SC) (π : PJ) (x0 : Int32) (x1 : Int32) (hR : m_ST_name σ x0 x1 = none) : MX l y_ST_name b_ST_name 4 (some .int) { frames := 7, cells := 1, slots := 6, locals := 118 } D classes (tyL cI cL cQ) NWL ALLW N0 N1 [.ref (G 0 0), .int x0, .int x1] (wsC G cI cL cQ σ π rest) "java/lang/IndexOutOfBoundsException" 1 6 := by
  refine mx_of (own := R_ST) (by decide) rfl nwl_ok ?_
  intro p e s m below meth c hC hex hSW hB
  have hB0 := hB
  have hx := hC.1
  have hb := hC.2.1
  have hl := lv_entry ([.ref (G 0 0), .int x0, .int x1]) (n := 4) (Nat.le_of_ble_eq_true rfl)
  rw [lg_entry_eq]
  generalize (lg_sl ([.ref (G 0 0), .int x0, .int x1]) ++ List.replicate (4 - (lg_sl ([.ref (G 0 0), .int x0, .int x1])).length) Slot.unset).toArray = ls at hl ⊢
  have hl : lv_has ls 4 [(0, .ref (G 0 0)), (1, .int x0), (2, .int x1)] := hl
  rw [m_ST_name] at hR
  refine lv_aload_n hx hb d_ST_name_0 rfl (lv_at hl 0 rfl) ?_
  refine lv_iload_n hx hb d_ST_name_1 rfl (lv_at hl 1 rfl) ?_
  rcases hq_1 : m_ST_needPart σ x0 with _ | u_1
  · refine kx hC hSW hB _ lkC_ST rfl (x_ST_needPart htl σ π x0 hq_1) allw_ok mf_ST_needPart kw_628 ks_14 kw_626 ⟨rfl, rfl, Nat.le_of_ble_eq_true rfl, Nat.le_of_ble_eq_true rfl⟩ rfl rfl hl.1 (Nat.le_of_ble_eq_true rfl) d_ST_name_2 ⟨Nat.le_of_ble_eq_true rfl, Nat.le_of_ble_eq_true rfl⟩ (fun q ce H locs hB h1 h2 h3 => ?_)
    exact tx_out hC hB (by rw [hex]; intro x hx; cases hx) h1 h2 h3 (Nat.le_of_ble_eq_true rfl) (Nat.le_of_ble_eq_true rfl)
  rw [hq_1] at hR
  dsimp only at hR
  refine kV hC hB _ lkC_ST rfl (c_ST_needPart σ π x0 u_1 hq_1) allw_ok mf_ST_needPart kw_628 ks_14 kw_626 ⟨rfl, rfl, Nat.le_of_ble_eq_true rfl, Nat.le_of_ble_eq_true rfl⟩ rfl rfl hl.1 (Nat.le_of_ble_eq_true rfl) d_ST_name_2 ⟨Nat.le_of_ble_eq_true rfl, Nat.le_of_ble_eq_true rfl⟩ (roK fun H locs hB => ?_)
  refine lv_aload_n hx hb d_ST_name_5 rfl (lv_at hl 0 rfl) ?_
  refine lv_iload_n hx hb d_ST_name_6 rfl (lv_at hl 1 rfl) ?_
  refine lv_iload_n hx hb d_ST_name_7 rfl (lv_at hl 2 rfl) ?_
  rcases hq_2 : m_ST_needUnit σ x0 x1 with _ | u_2
  · refine kx hC hSW hB _ lkC_ST rfl (x_ST_needUnit htl σ π x0 x1 hq_2) allw_ok mf_ST_needUnit kw_854 ks_27 kw_852 ⟨rfl, rfl, Nat.le_of_ble_eq_true rfl, Nat.le_of_ble_eq_true rfl⟩ rfl rfl hl.1 (Nat.le_of_ble_eq_true rfl) d_ST_name_8 ⟨Nat.le_of_ble_eq_true rfl, Nat.le_of_ble_eq_true rfl⟩ (fun q ce H locs hB h1 h2 h3 => ?_)
    exact tx_out hC hB (by rw [hex]; intro x hx; cases hx) h1 h2 h3 (Nat.le_of_ble_eq_true rfl) (Nat.le_of_ble_eq_true rfl)
  rw [hq_2] at hR
  dsimp only at hR
  refine kV hC hB _ lkC_ST rfl (c_ST_needUnit σ π x0 x1 u_2 hq_2) allw_ok mf_ST_needUnit kw_854 ks_27 kw_852 ⟨rfl, rfl, Nat.le_of_ble_eq_true rfl, Nat.le_of_ble_eq_true rfl⟩ rfl rfl hl.1 (Nat.le_of_ble_eq_true rfl) d_ST_name_8 ⟨Nat.le_of_ble_eq_true rfl, Nat.le_of_ble_eq_true rfl⟩ (roK fun H locs hB => ?_)
  refine lv_aload_n hx hb d_ST_name_11 rfl (lv_at hl 0 rfl) ?_
  refine gt hC hB _ lkC_ST rfl i_ST 3 (by decide) rfl kw_259 rfl d_ST_name_12 ?_
  refine lv_iload_n hx hb d_ST_name_15 rfl (lv_at hl 1 rfl) ?_
  refine lv_iload_n hx hb d_ST_name_16 rfl (lv_at hl 2 rfl) ?_
  refine lv_aload_n hx hb d_ST_name_17 rfl (lv_at hl 0 rfl) ?_
  refine gt hC hB _ lkC_ST rfl i_ST 5 (by decide) rfl kw_261 rfl d_ST_name_18 ?_
  refine lv_iconst (v := 0) hx hb d_ST_name_21 (by decide) ?_
  refine kV hC hB _ (lkC_row (by decide)) rfl (c_Row_at 18 (by decide) σ π 0) allw_ok mf_Row_at kw_233 kw_234 kw_713 ⟨rfl, rfl, Nat.le_of_ble_eq_true rfl, Nat.le_of_ble_eq_true rfl⟩ rfl rfl hl.1 (Nat.le_of_ble_eq_true rfl) d_ST_name_22 ⟨Nat.le_of_ble_eq_true rfl, Nat.le_of_ble_eq_true rfl⟩ (roK fun H locs hB => ?_)
  refine lv_iconst (v := 1) hx hb d_ST_name_25 (by decide) ?_
  refine lv_icmp_ne (tgt := 33) hx hb d_ST_name_26 (by decide) (fun c_3 => ?_) (fun c_3 => ?_)
  · rw [if_neg c_3] at hR
    refine lv_iconst (v := 0) hx hb d_ST_name_33 (by decide) ?_
    refine absurd hR ?_
    repeat' (first | with_reducible exact nn_some _ | with_reducible refine nn_ite ?_ ?_)
  · rw [if_pos c_3] at hR
    refine lv_iconst (v := 1) hx hb d_ST_name_29 (by decide) ?_
    refine lv_goto (tgt := 34) hx hb d_ST_name_30 (by decide) ?_
    refine absurd hR ?_
    repeat' (first | with_reducible exact nn_some _ | with_reducible refine nn_ite ?_ ?_)
end SC
