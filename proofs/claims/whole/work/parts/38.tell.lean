def m_ST_tell (σ : SC) (x0 : Int32) (x1 : Int32) (x2 : Int32) (x3 : Int32) (x4 : Int64) : Option (Bool × SC) :=
  match m_ST_needVariant σ x1 with
  | none => none
  | some u_1 =>
    match m_ST_needPage σ x2 with
    | none => none
    | some u_2 =>
      match m_ST_needPart σ x3 with
      | none => none
      | some u_3 =>
        if (bi ((m_Variants_tell σ x0 x1 x2 x3 x4).1)) = 0 then
          some (false, (m_Variants_tell σ x0 x1 x2 x3 x4).2)
        else
          some (true, (m_Journal_keep ((m_Variants_tell σ x0 x1 x2 x3 x4).2)))

def m_ST_value (σ : SC) (x0 : Int32) (x1 : Int32) (x2 : Int32) (x3 : Int64) : Option (Bool × SC) :=
  match m_ST_tell σ 0 x0 x1 x2 x3 with
  | none => none
  | some u_1 =>
    some ((u_1).1, (u_1).2)

def m_ST_fit (σ : SC) (x0 : Int32) (x1 : Int32) (x2 : Int32) (x3 : Bool) : Option (Bool × SC) :=
  if (bi x3) = 0 then
    match m_ST_tell σ 1 x0 x1 x2 0 with
    | none => none
    | some u_2 =>
      some ((u_2).1, (u_2).2)
  else
    match m_ST_tell σ 1 x0 x1 x2 1 with
    | none => none
    | some u_3 =>
      some ((u_3).1, (u_3).2)

section SC
variable {l : Launch} {D : va_G} {N0 N1 : Nat} {G : Nat → Nat → Nat} {cI cL cQ : ClassId} {rest : va_W}
set_option maxHeartbeats 400000 in
set_option maxRecDepth 100000 in
theorem c_ST_tell (σ : SC) (π : PJ) (hπ : RJ π σ) (x0 : Int32) (x1 : Int32) (x2 : Int32) (x3 : Int32) (x4 : Int64) (RES : Bool × SC) (hR : m_ST_tell σ x0 x1 x2 x3 x4 = some RES) : CM l y_ST_tell b_ST_tell 7 (some .boolean) { frames := 6, cells := ((3 + ((m_Book_depthAt (m_Row_set (m_Row_set (m_Row_set σ 12 1 ((m_Row_at σ 12 1 + 1).toInt64)) 14 (m_Row_at σ 12 1) (m_Variants_subjectOf x0 x1 x3).toInt64) 16 (m_Row_at σ 12 1) (m_Book_depthAt (m_Row_set (m_Row_set σ 12 1 ((m_Row_at σ 12 1 + 1).toInt64)) 14 (m_Row_at σ 12 1) (m_Variants_subjectOf x0 x1 x3).toInt64) x2).toInt64) x2 - 1).toNatClampNeg + 2)) + 1), slots := (4 * ((3 + ((m_Book_depthAt (m_Row_set (m_Row_set (m_Row_set σ 12 1 ((m_Row_at σ 12 1 + 1).toInt64)) 14 (m_Row_at σ 12 1) (m_Variants_subjectOf x0 x1 x3).toInt64) 16 (m_Row_at σ 12 1) (m_Book_depthAt (m_Row_set (m_Row_set σ 12 1 ((m_Row_at σ 12 1 + 1).toInt64)) 14 (m_Row_at σ 12 1) (m_Variants_subjectOf x0 x1 x3).toInt64) x2).toInt64) x2 - 1).toNatClampNeg + 2)) + 1)), locals := 140 } D (tyL cI cL cQ) N0 N0 [.ref (G 0 0), .int x0, .int x1, .int x2, .int x3, .long x4] (wsC G cI cL cQ σ π rest) (some (.int (bi RES.1))) (pwC G cI cL cQ RES.2 rest) ((3 + ((m_Book_depthAt (m_Row_set (m_Row_set (m_Row_set σ 12 1 ((m_Row_at σ 12 1 + 1).toInt64)) 14 (m_Row_at σ 12 1) (m_Variants_subjectOf x0 x1 x3).toInt64) 16 (m_Row_at σ 12 1) (m_Book_depthAt (m_Row_set (m_Row_set σ 12 1 ((m_Row_at σ 12 1 + 1).toInt64)) 14 (m_Row_at σ 12 1) (m_Variants_subjectOf x0 x1 x3).toInt64) x2).toInt64) x2 - 1).toNatClampNeg + 2)) + 1) (4 * ((3 + ((m_Book_depthAt (m_Row_set (m_Row_set (m_Row_set σ 12 1 ((m_Row_at σ 12 1 + 1).toInt64)) 14 (m_Row_at σ 12 1) (m_Variants_subjectOf x0 x1 x3).toInt64) 16 (m_Row_at σ 12 1) (m_Book_depthAt (m_Row_set (m_Row_set σ 12 1 ((m_Row_at σ 12 1 + 1).toInt64)) 14 (m_Row_at σ 12 1) (m_Variants_subjectOf x0 x1 x3).toInt64) x2).toInt64) x2 - 1).toNatClampNeg + 2)) + 1)) := by
  obtain ⟨RV, RS⟩ := RES
  dsimp only
  refine met_of (own := R_ST) (by decide) rfl nwl_ok ?_
  intro p e s m below meth c hC hin hB
  have hx := hC.1
  have hb := hC.2.1
  have hl := lv_entry ([.ref (G 0 0), .int x0, .int x1, .int x2, .int x3, .long x4]) (n := 7) (Nat.le_of_ble_eq_true rfl)
  rw [lg_entry_eq]
  generalize (lg_sl ([.ref (G 0 0), .int x0, .int x1, .int x2, .int x3, .long x4]) ++ List.replicate (7 - (lg_sl ([.ref (G 0 0), .int x0, .int x1, .int x2, .int x3, .long x4])).length) Slot.unset).toArray = ls at hl ⊢
  have hl : lv_has ls 7 [(0, .ref (G 0 0)), (1, .int x0), (2, .int x1), (3, .int x2), (4, .int x3), (5, .long x4)] := hl
  rw [m_ST_tell] at hR
  refine lv_aload_n hx hb d_ST_tell_0 rfl (lv_at hl 0 rfl) ?_
  refine lv_iload_n hx hb d_ST_tell_1 rfl (lv_at hl 2 rfl) ?_
  obtain ⟨u_1, hq_1⟩ : ∃ z, m_ST_needVariant σ x1 = some z := by
    cases hz : m_ST_needVariant σ x1 with
    | none => rw [hz] at hR; cases hR
    | some z => exact ⟨z, rfl⟩
  rw [hq_1] at hR
  dsimp only at hR
  refine kV hC hB _ lkC_ST rfl (c_ST_needVariant σ π x1 u_1 hq_1) allw_ok mf_ST_needVariant kw_728 ks_20 kw_726 ⟨rfl, rfl, Nat.le_of_ble_eq_true rfl, Nat.le_of_ble_eq_true rfl⟩ rfl rfl hl.1 (Nat.le_of_ble_eq_true rfl) d_ST_tell_2 (by constructor <;> (try dsimp only) <;> omega) (roK fun H locs hB => ?_)
  refine lv_aload_n hx hb d_ST_tell_5 rfl (lv_at hl 0 rfl) ?_
  refine lv_iload_n hx hb d_ST_tell_6 rfl (lv_at hl 3 rfl) ?_
  obtain ⟨u_2, hq_2⟩ : ∃ z, m_ST_needPage σ x2 = some z := by
    cases hz : m_ST_needPage σ x2 with
    | none => rw [hz] at hR; cases hR
    | some z => exact ⟨z, rfl⟩
  rw [hq_2] at hR
  dsimp only at hR
  refine kV hC hB _ lkC_ST rfl (c_ST_needPage σ π x2 u_2 hq_2) allw_ok mf_ST_needPage kw_759 ks_22 kw_757 ⟨rfl, rfl, Nat.le_of_ble_eq_true rfl, Nat.le_of_ble_eq_true rfl⟩ rfl rfl hl.1 (Nat.le_of_ble_eq_true rfl) d_ST_tell_7 (by constructor <;> (try dsimp only) <;> omega) (roK fun H locs hB => ?_)
  refine lv_aload_n hx hb d_ST_tell_10 rfl (lv_at hl 0 rfl) ?_
  refine lv_iload hx hb d_ST_tell_11 (lv_at hl 4 rfl) ?_
  obtain ⟨u_3, hq_3⟩ : ∃ z, m_ST_needPart σ x3 = some z := by
    cases hz : m_ST_needPart σ x3 with
    | none => rw [hz] at hR; cases hR
    | some z => exact ⟨z, rfl⟩
  rw [hq_3] at hR
  dsimp only at hR
  refine kV hC hB _ lkC_ST rfl (c_ST_needPart σ π x3 u_3 hq_3) allw_ok mf_ST_needPart kw_628 ks_14 kw_626 ⟨rfl, rfl, Nat.le_of_ble_eq_true rfl, Nat.le_of_ble_eq_true rfl⟩ rfl rfl hl.1 (Nat.le_of_ble_eq_true rfl) d_ST_tell_13 (by constructor <;> (try dsimp only) <;> omega) (roK fun H locs hB => ?_)
  refine lv_aload_n hx hb d_ST_tell_16 rfl (lv_at hl 0 rfl) ?_
  refine gt hC hB _ lkC_ST rfl i_ST 4 (by decide) rfl kw_260 rfl d_ST_tell_17 ?_
  refine lv_iload_n hx hb d_ST_tell_20 rfl (lv_at hl 1 rfl) ?_
  refine lv_iload_n hx hb d_ST_tell_21 rfl (lv_at hl 2 rfl) ?_
  refine lv_iload_n hx hb d_ST_tell_22 rfl (lv_at hl 3 rfl) ?_
  refine lv_iload hx hb d_ST_tell_23 (lv_at hl 4 rfl) ?_
  refine lv_lload hx hb d_ST_tell_25 (lv_at hl 5 rfl) ?_
  refine kV hC hB _ lkC_Variants rfl (c_Variants_tell σ π hπ x0 x1 x2 x3 x4) allw_ok mf_Variants_tell kw_763 kw_764 kw_762 ⟨rfl, rfl, Nat.le_of_ble_eq_true rfl, Nat.le_of_ble_eq_true rfl⟩ rfl rfl hl.1 (Nat.le_of_ble_eq_true rfl) d_ST_tell_27 (by constructor <;> (try dsimp only) <;> omega) (fun H locs w hw hB => ?_)
  obtain ⟨π, hπ, rfl⟩ := hw
  refine lv_if_ne (tgt := 35) hx hb d_ST_tell_30 (by decide) (fun c_4 => ?_) (fun c_4 => ?_)
  · rw [if_neg c_4] at hR
    refine lv_aload_n hx hb d_ST_tell_35 rfl (lv_at hl 0 rfl) ?_
    refine gt hC hB _ lkC_ST rfl i_ST 0 (by decide) rfl kw_256 rfl d_ST_tell_36 ?_
    refine kV hC hB _ lkC_Journal rfl (c_Journal_keep ((m_Variants_tell σ x0 x1 x2 x3 x4).2) π hπ) allw_ok mf_Journal_keep kw_329 kw_330 kw_328 ⟨rfl, rfl, Nat.le_of_ble_eq_true rfl, Nat.le_of_ble_eq_true rfl⟩ rfl rfl hl.1 (Nat.le_of_ble_eq_true rfl) d_ST_tell_39 (by constructor <;> (try dsimp only) <;> omega) (fun H locs w hw hB => ?_)
    obtain ⟨π, hπ, rfl⟩ := hw
    refine lv_iconst (v := 1) hx hb d_ST_tell_42 (by decide) ?_
    obtain ⟨rfl, rfl⟩ := Prod.mk.inj (Option.some.inj hR)
    refine W.widen (k := ((3 + ((m_Book_depthAt (m_Row_set (m_Row_set (m_Row_set σ 12 1 ((m_Row_at σ 12 1 + 1).toInt64)) 14 (m_Row_at σ 12 1) (m_Variants_subjectOf x0 x1 x3).toInt64) 16 (m_Row_at σ 12 1) (m_Book_depthAt (m_Row_set (m_Row_set σ 12 1 ((m_Row_at σ 12 1 + 1).toInt64)) 14 (m_Row_at σ 12 1) (m_Variants_subjectOf x0 x1 x3).toInt64) x2).toInt64) x2 - 1).toNatClampNeg + 2)) + 1)) (n := (4 * ((3 + ((m_Book_depthAt (m_Row_set (m_Row_set (m_Row_set σ 12 1 ((m_Row_at σ 12 1 + 1).toInt64)) 14 (m_Row_at σ 12 1) (m_Variants_subjectOf x0 x1 x3).toInt64) 16 (m_Row_at σ 12 1) (m_Book_depthAt (m_Row_set (m_Row_set σ 12 1 ((m_Row_at σ 12 1 + 1).toInt64)) 14 (m_Row_at σ 12 1) (m_Variants_subjectOf x0 x1 x3).toInt64) x2).toInt64) x2 - 1).toNatClampNeg + 2)) + 1))) (by (try dsimp only); omega) (by (try dsimp only); omega) ?_
    exact rz (b := true) hC hB ⟨π, hπ, rfl⟩ d_ST_tell_43
  · rw [if_pos c_4] at hR
    refine lv_iconst (v := 0) hx hb d_ST_tell_33 (by decide) ?_
    obtain ⟨rfl, rfl⟩ := Prod.mk.inj (Option.some.inj hR)
    refine W.widen (k := ((3 + ((m_Book_depthAt (m_Row_set (m_Row_set (m_Row_set σ 12 1 ((m_Row_at σ 12 1 + 1).toInt64)) 14 (m_Row_at σ 12 1) (m_Variants_subjectOf x0 x1 x3).toInt64) 16 (m_Row_at σ 12 1) (m_Book_depthAt (m_Row_set (m_Row_set σ 12 1 ((m_Row_at σ 12 1 + 1).toInt64)) 14 (m_Row_at σ 12 1) (m_Variants_subjectOf x0 x1 x3).toInt64) x2).toInt64) x2 - 1).toNatClampNeg + 2)) + 1)) (n := (4 * ((3 + ((m_Book_depthAt (m_Row_set (m_Row_set (m_Row_set σ 12 1 ((m_Row_at σ 12 1 + 1).toInt64)) 14 (m_Row_at σ 12 1) (m_Variants_subjectOf x0 x1 x3).toInt64) 16 (m_Row_at σ 12 1) (m_Book_depthAt (m_Row_set (m_Row_set σ 12 1 ((m_Row_at σ 12 1 + 1).toInt64)) 14 (m_Row_at σ 12 1) (m_Variants_subjectOf x0 x1 x3).toInt64) x2).toInt64) x2 - 1).toNatClampNeg + 2)) + 1))) (by (try dsimp only); omega) (by (try dsimp only); omega) ?_
    exact rz (b := false) hC hB ⟨π, hπ, rfl⟩ d_ST_tell_34

set_option maxHeartbeats 400000 in
set_option maxRecDepth 100000 in
theorem x_ST_tell (htl : l.stackTraces = false) (σ : SC) (π : PJ) (x0 : Int32) (x1 : Int32) (x2 : Int32) (x3 : Int32) (x4 : Int64) (hR : m_ST_tell σ x0 x1 x2 x3 x4 = none) : MX l y_ST_tell b_ST_tell 7 (some .boolean) { frames := 7, cells := 1, slots := 6, locals := 140 } D classes (tyL cI cL cQ) NWL ALLW N0 N1 [.ref (G 0 0), .int x0, .int x1, .int x2, .int x3, .long x4] (wsC G cI cL cQ σ π rest) "java/lang/IndexOutOfBoundsException" 1 6 := by
  refine mx_of (own := R_ST) (by decide) rfl nwl_ok ?_
  intro p e s m below meth c hC hex hSW hB
  have hB0 := hB
  have hx := hC.1
  have hb := hC.2.1
  have hl := lv_entry ([.ref (G 0 0), .int x0, .int x1, .int x2, .int x3, .long x4]) (n := 7) (Nat.le_of_ble_eq_true rfl)
  rw [lg_entry_eq]
  generalize (lg_sl ([.ref (G 0 0), .int x0, .int x1, .int x2, .int x3, .long x4]) ++ List.replicate (7 - (lg_sl ([.ref (G 0 0), .int x0, .int x1, .int x2, .int x3, .long x4])).length) Slot.unset).toArray = ls at hl ⊢
  have hl : lv_has ls 7 [(0, .ref (G 0 0)), (1, .int x0), (2, .int x1), (3, .int x2), (4, .int x3), (5, .long x4)] := hl
  rw [m_ST_tell] at hR
  refine lv_aload_n hx hb d_ST_tell_0 rfl (lv_at hl 0 rfl) ?_
  refine lv_iload_n hx hb d_ST_tell_1 rfl (lv_at hl 2 rfl) ?_
  rcases hq_1 : m_ST_needVariant σ x1 with _ | u_1
  · refine kx hC hSW hB _ lkC_ST rfl (x_ST_needVariant htl σ π x1 hq_1) allw_ok mf_ST_needVariant kw_728 ks_20 kw_726 ⟨rfl, rfl, Nat.le_of_ble_eq_true rfl, Nat.le_of_ble_eq_true rfl⟩ rfl rfl hl.1 (Nat.le_of_ble_eq_true rfl) d_ST_tell_2 ⟨Nat.le_of_ble_eq_true rfl, Nat.le_of_ble_eq_true rfl⟩ (fun q ce H locs hB h1 h2 h3 => ?_)
    exact tx_out hC hB (by rw [hex]; intro x hx; cases hx) h1 h2 h3 (Nat.le_of_ble_eq_true rfl) (Nat.le_of_ble_eq_true rfl)
  rw [hq_1] at hR
  dsimp only at hR
  refine kV hC hB _ lkC_ST rfl (c_ST_needVariant σ π x1 u_1 hq_1) allw_ok mf_ST_needVariant kw_728 ks_20 kw_726 ⟨rfl, rfl, Nat.le_of_ble_eq_true rfl, Nat.le_of_ble_eq_true rfl⟩ rfl rfl hl.1 (Nat.le_of_ble_eq_true rfl) d_ST_tell_2 (by constructor <;> (try dsimp only) <;> omega) (roK fun H locs hB => ?_)
  refine lv_aload_n hx hb d_ST_tell_5 rfl (lv_at hl 0 rfl) ?_
  refine lv_iload_n hx hb d_ST_tell_6 rfl (lv_at hl 3 rfl) ?_
  rcases hq_2 : m_ST_needPage σ x2 with _ | u_2
  · refine kx hC hSW hB _ lkC_ST rfl (x_ST_needPage htl σ π x2 hq_2) allw_ok mf_ST_needPage kw_759 ks_22 kw_757 ⟨rfl, rfl, Nat.le_of_ble_eq_true rfl, Nat.le_of_ble_eq_true rfl⟩ rfl rfl hl.1 (Nat.le_of_ble_eq_true rfl) d_ST_tell_7 ⟨Nat.le_of_ble_eq_true rfl, Nat.le_of_ble_eq_true rfl⟩ (fun q ce H locs hB h1 h2 h3 => ?_)
    exact tx_out hC hB (by rw [hex]; intro x hx; cases hx) h1 h2 h3 (Nat.le_of_ble_eq_true rfl) (Nat.le_of_ble_eq_true rfl)
  rw [hq_2] at hR
  dsimp only at hR
  refine kV hC hB _ lkC_ST rfl (c_ST_needPage σ π x2 u_2 hq_2) allw_ok mf_ST_needPage kw_759 ks_22 kw_757 ⟨rfl, rfl, Nat.le_of_ble_eq_true rfl, Nat.le_of_ble_eq_true rfl⟩ rfl rfl hl.1 (Nat.le_of_ble_eq_true rfl) d_ST_tell_7 (by constructor <;> (try dsimp only) <;> omega) (roK fun H locs hB => ?_)
  refine lv_aload_n hx hb d_ST_tell_10 rfl (lv_at hl 0 rfl) ?_
  refine lv_iload hx hb d_ST_tell_11 (lv_at hl 4 rfl) ?_
  rcases hq_3 : m_ST_needPart σ x3 with _ | u_3
  · refine kx hC hSW hB _ lkC_ST rfl (x_ST_needPart htl σ π x3 hq_3) allw_ok mf_ST_needPart kw_628 ks_14 kw_626 ⟨rfl, rfl, Nat.le_of_ble_eq_true rfl, Nat.le_of_ble_eq_true rfl⟩ rfl rfl hl.1 (Nat.le_of_ble_eq_true rfl) d_ST_tell_13 ⟨Nat.le_of_ble_eq_true rfl, Nat.le_of_ble_eq_true rfl⟩ (fun q ce H locs hB h1 h2 h3 => ?_)
    exact tx_out hC hB (by rw [hex]; intro x hx; cases hx) h1 h2 h3 (Nat.le_of_ble_eq_true rfl) (Nat.le_of_ble_eq_true rfl)
  rw [hq_3] at hR
  dsimp only at hR
  refine kV hC hB _ lkC_ST rfl (c_ST_needPart σ π x3 u_3 hq_3) allw_ok mf_ST_needPart kw_628 ks_14 kw_626 ⟨rfl, rfl, Nat.le_of_ble_eq_true rfl, Nat.le_of_ble_eq_true rfl⟩ rfl rfl hl.1 (Nat.le_of_ble_eq_true rfl) d_ST_tell_13 (by constructor <;> (try dsimp only) <;> omega) (roK fun H locs hB => ?_)
  refine lv_aload_n hx hb d_ST_tell_16 rfl (lv_at hl 0 rfl) ?_
  refine gt hC hB _ lkC_ST rfl i_ST 4 (by decide) rfl kw_260 rfl d_ST_tell_17 ?_
  refine lv_iload_n hx hb d_ST_tell_20 rfl (lv_at hl 1 rfl) ?_
  refine lv_iload_n hx hb d_ST_tell_21 rfl (lv_at hl 2 rfl) ?_
  refine lv_iload_n hx hb d_ST_tell_22 rfl (lv_at hl 3 rfl) ?_
  refine lv_iload hx hb d_ST_tell_23 (lv_at hl 4 rfl) ?_
  refine lv_lload hx hb d_ST_tell_25 (lv_at hl 5 rfl) ?_
  refine absurd hR ?_
  repeat' (first | with_reducible exact nn_some _ | with_reducible refine nn_ite ?_ ?_)

set_option maxHeartbeats 400000 in
set_option maxRecDepth 100000 in
theorem c_ST_value (σ : SC) (π : PJ) (hπ : RJ π σ) (x0 : Int32) (x1 : Int32) (x2 : Int32) (x3 : Int64) (RES : Bool × SC) (hR : m_ST_value σ x0 x1 x2 x3 = some RES) : CM l y_ST_value b_ST_value 6 (some .boolean) { frames := 7, cells := ((3 + ((m_Book_depthAt (m_Row_set (m_Row_set (m_Row_set σ 12 1 ((m_Row_at σ 12 1 + 1).toInt64)) 14 (m_Row_at σ 12 1) (m_Variants_subjectOf 0 x0 x2).toInt64) 16 (m_Row_at σ 12 1) (m_Book_depthAt (m_Row_set (m_Row_set σ 12 1 ((m_Row_at σ 12 1 + 1).toInt64)) 14 (m_Row_at σ 12 1) (m_Variants_subjectOf 0 x0 x2).toInt64) x1).toInt64) x1 - 1).toNatClampNeg + 2)) + 1), slots := (4 * ((3 + ((m_Book_depthAt (m_Row_set (m_Row_set (m_Row_set σ 12 1 ((m_Row_at σ 12 1 + 1).toInt64)) 14 (m_Row_at σ 12 1) (m_Variants_subjectOf 0 x0 x2).toInt64) 16 (m_Row_at σ 12 1) (m_Book_depthAt (m_Row_set (m_Row_set σ 12 1 ((m_Row_at σ 12 1 + 1).toInt64)) 14 (m_Row_at σ 12 1) (m_Variants_subjectOf 0 x0 x2).toInt64) x1).toInt64) x1 - 1).toNatClampNeg + 2)) + 1)), locals := 166 } D (tyL cI cL cQ) N0 N0 [.ref (G 0 0), .int x0, .int x1, .int x2, .long x3] (wsC G cI cL cQ σ π rest) (some (.int (bi RES.1))) (pwC G cI cL cQ RES.2 rest) ((3 + ((m_Book_depthAt (m_Row_set (m_Row_set (m_Row_set σ 12 1 ((m_Row_at σ 12 1 + 1).toInt64)) 14 (m_Row_at σ 12 1) (m_Variants_subjectOf 0 x0 x2).toInt64) 16 (m_Row_at σ 12 1) (m_Book_depthAt (m_Row_set (m_Row_set σ 12 1 ((m_Row_at σ 12 1 + 1).toInt64)) 14 (m_Row_at σ 12 1) (m_Variants_subjectOf 0 x0 x2).toInt64) x1).toInt64) x1 - 1).toNatClampNeg + 2)) + 1) (4 * ((3 + ((m_Book_depthAt (m_Row_set (m_Row_set (m_Row_set σ 12 1 ((m_Row_at σ 12 1 + 1).toInt64)) 14 (m_Row_at σ 12 1) (m_Variants_subjectOf 0 x0 x2).toInt64) 16 (m_Row_at σ 12 1) (m_Book_depthAt (m_Row_set (m_Row_set σ 12 1 ((m_Row_at σ 12 1 + 1).toInt64)) 14 (m_Row_at σ 12 1) (m_Variants_subjectOf 0 x0 x2).toInt64) x1).toInt64) x1 - 1).toNatClampNeg + 2)) + 1)) := by
  obtain ⟨RV, RS⟩ := RES
  dsimp only
  refine met_of (own := R_ST) (by decide) rfl nwl_ok ?_
  intro p e s m below meth c hC hin hB
  have hx := hC.1
  have hb := hC.2.1
  have hl := lv_entry ([.ref (G 0 0), .int x0, .int x1, .int x2, .long x3]) (n := 6) (Nat.le_of_ble_eq_true rfl)
  rw [lg_entry_eq]
  generalize (lg_sl ([.ref (G 0 0), .int x0, .int x1, .int x2, .long x3]) ++ List.replicate (6 - (lg_sl ([.ref (G 0 0), .int x0, .int x1, .int x2, .long x3])).length) Slot.unset).toArray = ls at hl ⊢
  have hl : lv_has ls 6 [(0, .ref (G 0 0)), (1, .int x0), (2, .int x1), (3, .int x2), (4, .long x3)] := hl
  rw [m_ST_value] at hR
  refine lv_aload_n hx hb d_ST_value_0 rfl (lv_at hl 0 rfl) ?_
  refine lv_iconst (v := 0) hx hb d_ST_value_1 (by decide) ?_
  refine lv_iload_n hx hb d_ST_value_2 rfl (lv_at hl 1 rfl) ?_
  refine lv_iload_n hx hb d_ST_value_3 rfl (lv_at hl 2 rfl) ?_
  refine lv_iload_n hx hb d_ST_value_4 rfl (lv_at hl 3 rfl) ?_
  refine lv_lload hx hb d_ST_value_5 (lv_at hl 4 rfl) ?_
  obtain ⟨u_1, hq_1⟩ : ∃ z, m_ST_tell σ 0 x0 x1 x2 x3 = some z := by
    cases hz : m_ST_tell σ 0 x0 x1 x2 x3 with
    | none => rw [hz] at hR; cases hR
    | some z => exact ⟨z, rfl⟩
  rw [hq_1] at hR
  dsimp only at hR
  refine kV hC hB _ lkC_ST rfl (c_ST_tell σ π hπ 0 x0 x1 x2 x3 u_1 hq_1) allw_ok mf_ST_tell kw_755 ks_21 kw_753 ⟨rfl, rfl, Nat.le_of_ble_eq_true rfl, Nat.le_of_ble_eq_true rfl⟩ rfl rfl hl.1 (Nat.le_of_ble_eq_true rfl) d_ST_value_7 (by constructor <;> (try dsimp only) <;> omega) (fun H locs w hw hB => ?_)
  obtain ⟨π, hπ, rfl⟩ := hw
  obtain ⟨rfl, rfl⟩ := Prod.mk.inj (Option.some.inj hR)
  refine W.widen (k := ((3 + ((m_Book_depthAt (m_Row_set (m_Row_set (m_Row_set σ 12 1 ((m_Row_at σ 12 1 + 1).toInt64)) 14 (m_Row_at σ 12 1) (m_Variants_subjectOf 0 x0 x2).toInt64) 16 (m_Row_at σ 12 1) (m_Book_depthAt (m_Row_set (m_Row_set σ 12 1 ((m_Row_at σ 12 1 + 1).toInt64)) 14 (m_Row_at σ 12 1) (m_Variants_subjectOf 0 x0 x2).toInt64) x1).toInt64) x1 - 1).toNatClampNeg + 2)) + 1)) (n := (4 * ((3 + ((m_Book_depthAt (m_Row_set (m_Row_set (m_Row_set σ 12 1 ((m_Row_at σ 12 1 + 1).toInt64)) 14 (m_Row_at σ 12 1) (m_Variants_subjectOf 0 x0 x2).toInt64) 16 (m_Row_at σ 12 1) (m_Book_depthAt (m_Row_set (m_Row_set σ 12 1 ((m_Row_at σ 12 1 + 1).toInt64)) 14 (m_Row_at σ 12 1) (m_Variants_subjectOf 0 x0 x2).toInt64) x1).toInt64) x1 - 1).toNatClampNeg + 2)) + 1))) (by (try dsimp only); omega) (by (try dsimp only); omega) ?_
  exact rz (b := (u_1).1) hC hB ⟨π, hπ, rfl⟩ d_ST_value_10

set_option maxHeartbeats 400000 in
set_option maxRecDepth 100000 in
theorem x_ST_value (htl : l.stackTraces = false) (σ : SC) (π : PJ) (x0 : Int32) (x1 : Int32) (x2 : Int32) (x3 : Int64) (hR : m_ST_value σ x0 x1 x2 x3 = none) : MX l y_ST_value b_ST_value 6 (some .boolean) { frames := 8, cells := 1, slots := 6, locals := 166 } D classes (tyL cI cL cQ) NWL ALLW N0 N1 [.ref (G 0 0), .int x0, .int x1, .int x2, .long x3] (wsC G cI cL cQ σ π rest) "java/lang/IndexOutOfBoundsException" 1 6 := by
  refine mx_of (own := R_ST) (by decide) rfl nwl_ok ?_
  intro p e s m below meth c hC hex hSW hB
  have hB0 := hB
  have hx := hC.1
  have hb := hC.2.1
  have hl := lv_entry ([.ref (G 0 0), .int x0, .int x1, .int x2, .long x3]) (n := 6) (Nat.le_of_ble_eq_true rfl)
  rw [lg_entry_eq]
  generalize (lg_sl ([.ref (G 0 0), .int x0, .int x1, .int x2, .long x3]) ++ List.replicate (6 - (lg_sl ([.ref (G 0 0), .int x0, .int x1, .int x2, .long x3])).length) Slot.unset).toArray = ls at hl ⊢
  have hl : lv_has ls 6 [(0, .ref (G 0 0)), (1, .int x0), (2, .int x1), (3, .int x2), (4, .long x3)] := hl
  rw [m_ST_value] at hR
  refine lv_aload_n hx hb d_ST_value_0 rfl (lv_at hl 0 rfl) ?_
  refine lv_iconst (v := 0) hx hb d_ST_value_1 (by decide) ?_
  refine lv_iload_n hx hb d_ST_value_2 rfl (lv_at hl 1 rfl) ?_
  refine lv_iload_n hx hb d_ST_value_3 rfl (lv_at hl 2 rfl) ?_
  refine lv_iload_n hx hb d_ST_value_4 rfl (lv_at hl 3 rfl) ?_
  refine lv_lload hx hb d_ST_value_5 (lv_at hl 4 rfl) ?_
  rcases hq_1 : m_ST_tell σ 0 x0 x1 x2 x3 with _ | u_1
  · refine kx hC hSW hB _ lkC_ST rfl (x_ST_tell htl σ π 0 x0 x1 x2 x3 hq_1) allw_ok mf_ST_tell kw_755 ks_21 kw_753 ⟨rfl, rfl, Nat.le_of_ble_eq_true rfl, Nat.le_of_ble_eq_true rfl⟩ rfl rfl hl.1 (Nat.le_of_ble_eq_true rfl) d_ST_value_7 ⟨Nat.le_of_ble_eq_true rfl, Nat.le_of_ble_eq_true rfl⟩ (fun q ce H locs hB h1 h2 h3 => ?_)
    exact tx_out hC hB (by rw [hex]; intro x hx; cases hx) h1 h2 h3 (Nat.le_of_ble_eq_true rfl) (Nat.le_of_ble_eq_true rfl)
  rw [hq_1] at hR
  dsimp only at hR
  refine absurd hR ?_
  repeat' (first | with_reducible exact nn_some _ | with_reducible refine nn_ite ?_ ?_)

set_option maxHeartbeats 400000 in
set_option maxRecDepth 100000 in
theorem c_ST_fit (σ : SC) (π : PJ) (hπ : RJ π σ) (x0 : Int32) (x1 : Int32) (x2 : Int32) (x3 : Bool) (RES : Bool × SC) (hR : m_ST_fit σ x0 x1 x2 x3 = some RES) : CM l y_ST_fit b_ST_fit 5 (some .boolean) { frames := 7, cells := ((3 + ((m_Book_depthAt (m_Row_set (m_Row_set (m_Row_set σ 12 1 ((m_Row_at σ 12 1 + 1).toInt64)) 14 (m_Row_at σ 12 1) (m_Variants_subjectOf 1 x0 x2).toInt64) 16 (m_Row_at σ 12 1) (m_Book_depthAt (m_Row_set (m_Row_set σ 12 1 ((m_Row_at σ 12 1 + 1).toInt64)) 14 (m_Row_at σ 12 1) (m_Variants_subjectOf 1 x0 x2).toInt64) x1).toInt64) x1 - 1).toNatClampNeg + 2)) + 1), slots := (4 * ((3 + ((m_Book_depthAt (m_Row_set (m_Row_set (m_Row_set σ 12 1 ((m_Row_at σ 12 1 + 1).toInt64)) 14 (m_Row_at σ 12 1) (m_Variants_subjectOf 1 x0 x2).toInt64) 16 (m_Row_at σ 12 1) (m_Book_depthAt (m_Row_set (m_Row_set σ 12 1 ((m_Row_at σ 12 1 + 1).toInt64)) 14 (m_Row_at σ 12 1) (m_Variants_subjectOf 1 x0 x2).toInt64) x1).toInt64) x1 - 1).toNatClampNeg + 2)) + 1)), locals := 166 } D (tyL cI cL cQ) N0 N0 [.ref (G 0 0), .int x0, .int x1, .int x2, .int (bi x3)] (wsC G cI cL cQ σ π rest) (some (.int (bi RES.1))) (pwC G cI cL cQ RES.2 rest) ((3 + ((m_Book_depthAt (m_Row_set (m_Row_set (m_Row_set σ 12 1 ((m_Row_at σ 12 1 + 1).toInt64)) 14 (m_Row_at σ 12 1) (m_Variants_subjectOf 1 x0 x2).toInt64) 16 (m_Row_at σ 12 1) (m_Book_depthAt (m_Row_set (m_Row_set σ 12 1 ((m_Row_at σ 12 1 + 1).toInt64)) 14 (m_Row_at σ 12 1) (m_Variants_subjectOf 1 x0 x2).toInt64) x1).toInt64) x1 - 1).toNatClampNeg + 2)) + 1) (4 * ((3 + ((m_Book_depthAt (m_Row_set (m_Row_set (m_Row_set σ 12 1 ((m_Row_at σ 12 1 + 1).toInt64)) 14 (m_Row_at σ 12 1) (m_Variants_subjectOf 1 x0 x2).toInt64) 16 (m_Row_at σ 12 1) (m_Book_depthAt (m_Row_set (m_Row_set σ 12 1 ((m_Row_at σ 12 1 + 1).toInt64)) 14 (m_Row_at σ 12 1) (m_Variants_subjectOf 1 x0 x2).toInt64) x1).toInt64) x1 - 1).toNatClampNeg + 2)) + 1)) := by
  obtain ⟨RV, RS⟩ := RES
  dsimp only
  refine met_of (own := R_ST) (by decide) rfl nwl_ok ?_
  intro p e s m below meth c hC hin hB
  have hx := hC.1
  have hb := hC.2.1
  have hl := lv_entry ([.ref (G 0 0), .int x0, .int x1, .int x2, .int (bi x3)]) (n := 5) (Nat.le_of_ble_eq_true rfl)
  rw [lg_entry_eq]
  generalize (lg_sl ([.ref (G 0 0), .int x0, .int x1, .int x2, .int (bi x3)]) ++ List.replicate (5 - (lg_sl ([.ref (G 0 0), .int x0, .int x1, .int x2, .int (bi x3)])).length) Slot.unset).toArray = ls at hl ⊢
  have hl : lv_has ls 5 [(0, .ref (G 0 0)), (1, .int x0), (2, .int x1), (3, .int x2), (4, .int (bi x3))] := hl
  rw [m_ST_fit] at hR
  refine lv_aload_n hx hb d_ST_fit_0 rfl (lv_at hl 0 rfl) ?_
  refine lv_iconst (v := 1) hx hb d_ST_fit_1 (by decide) ?_
  refine lv_iload_n hx hb d_ST_fit_2 rfl (lv_at hl 1 rfl) ?_
  refine lv_iload_n hx hb d_ST_fit_3 rfl (lv_at hl 2 rfl) ?_
  refine lv_iload_n hx hb d_ST_fit_4 rfl (lv_at hl 3 rfl) ?_
  refine lv_iload hx hb d_ST_fit_5 (lv_at hl 4 rfl) ?_
  refine lv_if_eq (tgt := 14) hx hb d_ST_fit_7 (by decide) (fun c_1 => ?_) (fun c_1 => ?_)
  · rw [if_pos c_1] at hR
    refine lv_lconst (v := 0) hx hb d_ST_fit_14 (by decide) ?_
    obtain ⟨u_2, hq_2⟩ : ∃ z, m_ST_tell σ 1 x0 x1 x2 0 = some z := by
      cases hz : m_ST_tell σ 1 x0 x1 x2 0 with
      | none => rw [hz] at hR; cases hR
      | some z => exact ⟨z, rfl⟩
    rw [hq_2] at hR
    dsimp only at hR
    refine kV hC hB _ lkC_ST rfl (c_ST_tell σ π hπ 1 x0 x1 x2 0 u_2 hq_2) allw_ok mf_ST_tell kw_755 ks_21 kw_753 ⟨rfl, rfl, Nat.le_of_ble_eq_true rfl, Nat.le_of_ble_eq_true rfl⟩ rfl rfl hl.1 (Nat.le_of_ble_eq_true rfl) d_ST_fit_15 (by constructor <;> (try dsimp only) <;> omega) (fun H locs w hw hB => ?_)
    obtain ⟨π, hπ, rfl⟩ := hw
    obtain ⟨rfl, rfl⟩ := Prod.mk.inj (Option.some.inj hR)
    refine W.widen (k := ((3 + ((m_Book_depthAt (m_Row_set (m_Row_set (m_Row_set σ 12 1 ((m_Row_at σ 12 1 + 1).toInt64)) 14 (m_Row_at σ 12 1) (m_Variants_subjectOf 1 x0 x2).toInt64) 16 (m_Row_at σ 12 1) (m_Book_depthAt (m_Row_set (m_Row_set σ 12 1 ((m_Row_at σ 12 1 + 1).toInt64)) 14 (m_Row_at σ 12 1) (m_Variants_subjectOf 1 x0 x2).toInt64) x1).toInt64) x1 - 1).toNatClampNeg + 2)) + 1)) (n := (4 * ((3 + ((m_Book_depthAt (m_Row_set (m_Row_set (m_Row_set σ 12 1 ((m_Row_at σ 12 1 + 1).toInt64)) 14 (m_Row_at σ 12 1) (m_Variants_subjectOf 1 x0 x2).toInt64) 16 (m_Row_at σ 12 1) (m_Book_depthAt (m_Row_set (m_Row_set σ 12 1 ((m_Row_at σ 12 1 + 1).toInt64)) 14 (m_Row_at σ 12 1) (m_Variants_subjectOf 1 x0 x2).toInt64) x1).toInt64) x1 - 1).toNatClampNeg + 2)) + 1))) (by (try dsimp only); omega) (by (try dsimp only); omega) ?_
    exact rz (b := (u_2).1) hC hB ⟨π, hπ, rfl⟩ d_ST_fit_18
  · rw [if_neg c_1] at hR
    refine lv_lconst (v := 1) hx hb d_ST_fit_10 (by decide) ?_
    refine lv_goto (tgt := 15) hx hb d_ST_fit_11 (by decide) ?_
    obtain ⟨u_3, hq_3⟩ : ∃ z, m_ST_tell σ 1 x0 x1 x2 1 = some z := by
      cases hz : m_ST_tell σ 1 x0 x1 x2 1 with
      | none => rw [hz] at hR; cases hR
      | some z => exact ⟨z, rfl⟩
    rw [hq_3] at hR
    dsimp only at hR
    refine kV hC hB _ lkC_ST rfl (c_ST_tell σ π hπ 1 x0 x1 x2 1 u_3 hq_3) allw_ok mf_ST_tell kw_755 ks_21 kw_753 ⟨rfl, rfl, Nat.le_of_ble_eq_true rfl, Nat.le_of_ble_eq_true rfl⟩ rfl rfl hl.1 (Nat.le_of_ble_eq_true rfl) d_ST_fit_15 (by constructor <;> (try dsimp only) <;> omega) (fun H locs w hw hB => ?_)
    obtain ⟨π, hπ, rfl⟩ := hw
    obtain ⟨rfl, rfl⟩ := Prod.mk.inj (Option.some.inj hR)
    refine W.widen (k := ((3 + ((m_Book_depthAt (m_Row_set (m_Row_set (m_Row_set σ 12 1 ((m_Row_at σ 12 1 + 1).toInt64)) 14 (m_Row_at σ 12 1) (m_Variants_subjectOf 1 x0 x2).toInt64) 16 (m_Row_at σ 12 1) (m_Book_depthAt (m_Row_set (m_Row_set σ 12 1 ((m_Row_at σ 12 1 + 1).toInt64)) 14 (m_Row_at σ 12 1) (m_Variants_subjectOf 1 x0 x2).toInt64) x1).toInt64) x1 - 1).toNatClampNeg + 2)) + 1)) (n := (4 * ((3 + ((m_Book_depthAt (m_Row_set (m_Row_set (m_Row_set σ 12 1 ((m_Row_at σ 12 1 + 1).toInt64)) 14 (m_Row_at σ 12 1) (m_Variants_subjectOf 1 x0 x2).toInt64) 16 (m_Row_at σ 12 1) (m_Book_depthAt (m_Row_set (m_Row_set σ 12 1 ((m_Row_at σ 12 1 + 1).toInt64)) 14 (m_Row_at σ 12 1) (m_Variants_subjectOf 1 x0 x2).toInt64) x1).toInt64) x1 - 1).toNatClampNeg + 2)) + 1))) (by (try dsimp only); omega) (by (try dsimp only); omega) ?_
    exact rz (b := (u_3).1) hC hB ⟨π, hπ, rfl⟩ d_ST_fit_18

set_option maxHeartbeats 400000 in
set_option maxRecDepth 100000 in
theorem x_ST_fit (htl : l.stackTraces = false) (σ : SC) (π : PJ) (x0 : Int32) (x1 : Int32) (x2 : Int32) (x3 : Bool) (hR : m_ST_fit σ x0 x1 x2 x3 = none) : MX l y_ST_fit b_ST_fit 5 (some .boolean) { frames := 8, cells := 1, slots := 6, locals := 166 } D classes (tyL cI cL cQ) NWL ALLW N0 N1 [.ref (G 0 0), .int x0, .int x1, .int x2, .int (bi x3)] (wsC G cI cL cQ σ π rest) "java/lang/IndexOutOfBoundsException" 1 6 := by
  refine mx_of (own := R_ST) (by decide) rfl nwl_ok ?_
  intro p e s m below meth c hC hex hSW hB
  have hB0 := hB
  have hx := hC.1
  have hb := hC.2.1
  have hl := lv_entry ([.ref (G 0 0), .int x0, .int x1, .int x2, .int (bi x3)]) (n := 5) (Nat.le_of_ble_eq_true rfl)
  rw [lg_entry_eq]
  generalize (lg_sl ([.ref (G 0 0), .int x0, .int x1, .int x2, .int (bi x3)]) ++ List.replicate (5 - (lg_sl ([.ref (G 0 0), .int x0, .int x1, .int x2, .int (bi x3)])).length) Slot.unset).toArray = ls at hl ⊢
  have hl : lv_has ls 5 [(0, .ref (G 0 0)), (1, .int x0), (2, .int x1), (3, .int x2), (4, .int (bi x3))] := hl
  rw [m_ST_fit] at hR
  refine lv_aload_n hx hb d_ST_fit_0 rfl (lv_at hl 0 rfl) ?_
  refine lv_iconst (v := 1) hx hb d_ST_fit_1 (by decide) ?_
  refine lv_iload_n hx hb d_ST_fit_2 rfl (lv_at hl 1 rfl) ?_
  refine lv_iload_n hx hb d_ST_fit_3 rfl (lv_at hl 2 rfl) ?_
  refine lv_iload_n hx hb d_ST_fit_4 rfl (lv_at hl 3 rfl) ?_
  refine lv_iload hx hb d_ST_fit_5 (lv_at hl 4 rfl) ?_
  refine lv_if_eq (tgt := 14) hx hb d_ST_fit_7 (by decide) (fun c_1 => ?_) (fun c_1 => ?_)
  · rw [if_pos c_1] at hR
    refine lv_lconst (v := 0) hx hb d_ST_fit_14 (by decide) ?_
    rcases hq_2 : m_ST_tell σ 1 x0 x1 x2 0 with _ | u_2
    · refine kx hC hSW hB _ lkC_ST rfl (x_ST_tell htl σ π 1 x0 x1 x2 0 hq_2) allw_ok mf_ST_tell kw_755 ks_21 kw_753 ⟨rfl, rfl, Nat.le_of_ble_eq_true rfl, Nat.le_of_ble_eq_true rfl⟩ rfl rfl hl.1 (Nat.le_of_ble_eq_true rfl) d_ST_fit_15 ⟨Nat.le_of_ble_eq_true rfl, Nat.le_of_ble_eq_true rfl⟩ (fun q ce H locs hB h1 h2 h3 => ?_)
      exact tx_out hC hB (by rw [hex]; intro x hx; cases hx) h1 h2 h3 (Nat.le_of_ble_eq_true rfl) (Nat.le_of_ble_eq_true rfl)
    rw [hq_2] at hR
    dsimp only at hR
    refine absurd hR ?_
    repeat' (first | with_reducible exact nn_some _ | with_reducible refine nn_ite ?_ ?_)
  · rw [if_neg c_1] at hR
    refine lv_lconst (v := 1) hx hb d_ST_fit_10 (by decide) ?_
    refine lv_goto (tgt := 15) hx hb d_ST_fit_11 (by decide) ?_
    rcases hq_3 : m_ST_tell σ 1 x0 x1 x2 1 with _ | u_3
    · refine kx hC hSW hB _ lkC_ST rfl (x_ST_tell htl σ π 1 x0 x1 x2 1 hq_3) allw_ok mf_ST_tell kw_755 ks_21 kw_753 ⟨rfl, rfl, Nat.le_of_ble_eq_true rfl, Nat.le_of_ble_eq_true rfl⟩ rfl rfl hl.1 (Nat.le_of_ble_eq_true rfl) d_ST_fit_15 ⟨Nat.le_of_ble_eq_true rfl, Nat.le_of_ble_eq_true rfl⟩ (fun q ce H locs hB h1 h2 h3 => ?_)
      exact tx_out hC hB (by rw [hex]; intro x hx; cases hx) h1 h2 h3 (Nat.le_of_ble_eq_true rfl) (Nat.le_of_ble_eq_true rfl)
    rw [hq_3] at hR
    dsimp only at hR
    refine absurd hR ?_
    repeat' (first | with_reducible exact nn_some _ | with_reducible refine nn_ite ?_ ?_)
end SC
