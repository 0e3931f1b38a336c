def m_ST_copy (σ : SC) (x0 : Int32) : Option (Int32 × SC) :=
  match m_ST_needSheet σ x0 with
  | none => none
  | some u_1 =>
    if 24 ≤ (m_Sheets_sheetCount σ) then
      some ((-1), σ)
    else
      if (m_Sheets_placementsLeft σ) < (m_Sheets_placementsOn σ x0) then
        some ((-1), σ)
      else
        if (m_Parts_partsOn σ x0).1 ≤ (m_Parts_partsLeft σ) then
          some ((m_Sheets_addSheetLike ((m_Parts_partsOn σ x0).2) x0).1, (m_Journal_keep (m_Parts_addPartsLike ((m_Sheets_addSheetLike ((m_Parts_partsOn σ x0).2) x0).2) x0 ((m_Sheets_addSheetLike ((m_Parts_partsOn σ x0).2) x0).1))))
        else
          some ((-1), (m_Parts_partsOn σ x0).2)

theorem rj_po {π : PJ} : ∀ (n : Nat) (σ : SC) (v1 v2 v3 : Int32), RJ π σ → RJ π (lp_Parts_partsOn_12 n σ v1 v2 v3).2
  | 0, _, _, _, _, h => h
  | n + 1, σ, v1, v2, v3, h => by
    rw [lp_Parts_partsOn_12]
    split
    · exact h
    · split
      · exact rj_po n _ _ _ _ (rj_ST_write h _ _ _)
      · exact rj_po n _ _ _ _ h
theorem rj_Parts_partsOn {π : PJ} {σ : SC} (h : RJ π σ) (x : Int32) : RJ π (m_Parts_partsOn σ x).2 := rj_po _ _ _ _ _ (rj_Arrays_fillI h _ _)
section SC
variable {l : Launch} {D : va_G} {N0 N1 : Nat} {G : Nat → Nat → Nat} {cI cL cQ : ClassId} {rest : va_W}
set_option maxHeartbeats 400000 in
set_option maxRecDepth 100000 in
theorem c_ST_copy (σ : SC) (π : PJ) (hπ : RJ π σ) (x0 : Int32) (RES : Int32 × SC) (hR : m_ST_copy σ x0 = some RES) : CM l y_ST_copy b_ST_copy 3 (some .int) { frames := 7, cells := ((2 + 37 * ct_Sheets_addSheetLike_31 ((60 : Int32).toNatClampNeg + 1) (m_Row_set ((m_Sheets_addSheet (m_Parts_partsOn σ x0).2).2) 1 ((m_Sheets_addSheet (m_Parts_partsOn σ x0).2).1) ((m_Row_at ((m_Sheets_addSheet (m_Parts_partsOn σ x0).2).2) 1 x0).toInt64)) x0 ((m_Sheets_addSheet (m_Parts_partsOn σ x0).2).1) (m_Sheets_firstOn (m_Row_set ((m_Sheets_addSheet (m_Parts_partsOn σ x0).2).2) 1 ((m_Sheets_addSheet (m_Parts_partsOn σ x0).2).1) ((m_Row_at ((m_Sheets_addSheet (m_Parts_partsOn σ x0).2).2) 1 x0).toInt64)) x0) 0) + (6 * ((m_Parts_gatesOn (m_Arrays_fillI (m_Sheets_addSheetLike (m_Parts_partsOn σ x0).2 x0).2 6 (-1)) x0).toNatClampNeg + 1))), slots := (4 * ((2 + 37 * ct_Sheets_addSheetLike_31 ((60 : Int32).toNatClampNeg + 1) (m_Row_set ((m_Sheets_addSheet (m_Parts_partsOn σ x0).2).2) 1 ((m_Sheets_addSheet (m_Parts_partsOn σ x0).2).1) ((m_Row_at ((m_Sheets_addSheet (m_Parts_partsOn σ x0).2).2) 1 x0).toInt64)) x0 ((m_Sheets_addSheet (m_Parts_partsOn σ x0).2).1) (m_Sheets_firstOn (m_Row_set ((m_Sheets_addSheet (m_Parts_partsOn σ x0).2).2) 1 ((m_Sheets_addSheet (m_Parts_partsOn σ x0).2).1) ((m_Row_at ((m_Sheets_addSheet (m_Parts_partsOn σ x0).2).2) 1 x0).toInt64)) x0) 0) + (6 * ((m_Parts_gatesOn (m_Arrays_fillI (m_Sheets_addSheetLike (m_Parts_partsOn σ x0).2 x0).2 6 (-1)) x0).toNatClampNeg + 1)))), locals := 157 } D (tyL cI cL cQ) N0 N0 [.ref (G 0 0), .int x0] (wsC G cI cL cQ σ π rest) (some (.int RES.1)) (pwC G cI cL cQ RES.2 rest) ((2 + 37 * ct_Sheets_addSheetLike_31 ((60 : Int32).toNatClampNeg + 1) (m_Row_set ((m_Sheets_addSheet (m_Parts_partsOn σ x0).2).2) 1 ((m_Sheets_addSheet (m_Parts_partsOn σ x0).2).1) ((m_Row_at ((m_Sheets_addSheet (m_Parts_partsOn σ x0).2).2) 1 x0).toInt64)) x0 ((m_Sheets_addSheet (m_Parts_partsOn σ x0).2).1) (m_Sheets_firstOn (m_Row_set ((m_Sheets_addSheet (m_Parts_partsOn σ x0).2).2) 1 ((m_Sheets_addSheet (m_Parts_partsOn σ x0).2).1) ((m_Row_at ((m_Sheets_addSheet (m_Parts_partsOn σ x0).2).2) 1 x0).toInt64)) x0) 0) + (6 * ((m_Parts_gatesOn (m_Arrays_fillI (m_Sheets_addSheetLike (m_Parts_partsOn σ x0).2 x0).2 6 (-1)) x0).toNatClampNeg + 1))) (4 * ((2 + 37 * ct_Sheets_addSheetLike_31 ((60 : Int32).toNatClampNeg + 1) (m_Row_set ((m_Sheets_addSheet (m_Parts_partsOn σ x0).2).2) 1 ((m_Sheets_addSheet (m_Parts_partsOn σ x0).2).1) ((m_Row_at ((m_Sheets_addSheet (m_Parts_partsOn σ x0).2).2) 1 x0).toInt64)) x0 ((m_Sheets_addSheet (m_Parts_partsOn σ x0).2).1) (m_Sheets_firstOn (m_Row_set ((m_Sheets_addSheet (m_Parts_partsOn σ x0).2).2) 1 ((m_Sheets_addSheet (m_Parts_partsOn σ x0).2).1) ((m_Row_at ((m_Sheets_addSheet (m_Parts_partsOn σ x0).2).2) 1 x0).toInt64)) x0) 0) + (6 * ((m_Parts_gatesOn (m_Arrays_fillI (m_Sheets_addSheetLike (m_Parts_partsOn σ x0).2 x0).2 6 (-1)) x0).toNatClampNeg + 1)))) := by
  obtain ⟨RV, RS⟩ := RES
  dsimp only
  refine met_of (own := R_ST) (by decide) rfl nwl_ok ?_
  intro p e s m below meth c hC hin hB
  have hx := hC.1
  have hb := hC.2.1
  have hl := lv_entry ([.ref (G 0 0), .int x0]) (n := 3) (Nat.le_of_ble_eq_true rfl)
  rw [lg_entry_eq]
  generalize (lg_sl ([.ref (G 0 0), .int x0]) ++ List.replicate (3 - (lg_sl ([.ref (G 0 0), .int x0])).length) Slot.unset).toArray = ls at hl ⊢
  have hl : lv_has ls 3 [(0, .ref (G 0 0)), (1, .int x0)] := hl
  rw [m_ST_copy] at hR
  refine lv_aload_n hx hb d_ST_copy_0 rfl (lv_at hl 0 rfl) ?_
  refine lv_iload_n hx hb d_ST_copy_1 rfl (lv_at hl 1 rfl) ?_
  obtain ⟨u_1, hq_1⟩ : ∃ z, m_ST_needSheet σ x0 = some z := by
    cases hz : m_ST_needSheet σ x0 with
    | none => rw [hz] at hR; cases hR
    | some z => exact ⟨z, rfl⟩
  rw [hq_1] at hR
  dsimp only at hR
  refine kV hC hB _ lkC_ST rfl (c_ST_needSheet σ π x0 u_1 hq_1) allw_ok mf_ST_needSheet kw_389 ks_5 kw_387 ⟨rfl, rfl, Nat.le_of_ble_eq_true rfl, Nat.le_of_ble_eq_true rfl⟩ rfl rfl hl.1 (Nat.le_of_ble_eq_true rfl) d_ST_copy_2 (by constructor <;> (try dsimp only) <;> omega) (roK fun H locs hB => ?_)
  refine lv_aload_n hx hb d_ST_copy_5 rfl (lv_at hl 0 rfl) ?_
  refine gt hC hB _ lkC_ST rfl i_ST 1 (by decide) rfl kw_257 rfl d_ST_copy_6 ?_
  refine kV hC hB _ lkC_Sheets rfl (c_Sheets_sheetCount σ π) allw_ok mf_Sheets_sheetCount kw_283 kw_284 kw_282 ⟨rfl, rfl, Nat.le_of_ble_eq_true rfl, Nat.le_of_ble_eq_true rfl⟩ rfl rfl hl.1 (Nat.le_of_ble_eq_true rfl) d_ST_copy_9 (by constructor <;> (try dsimp only) <;> omega) (roK fun H locs hB => ?_)
  refine lv_bipush (v := 24) hx hb d_ST_copy_12 (by decide) ?_
  refine lv_icmp_ge (tgt := 53) hx hb d_ST_copy_14 (by decide) (fun c_2 => ?_) (fun c_2 => ?_)
  · rw [if_pos c_2] at hR
    refine lv_iconst (v := (-1)) hx hb d_ST_copy_53 (by decide) ?_
    obtain ⟨rfl, rfl⟩ := Prod.mk.inj (Option.some.inj hR)
    refine W.widen (k := ((2 + 37 * ct_Sheets_addSheetLike_31 ((60 : Int32).toNatClampNeg + 1) (m_Row_set ((m_Sheets_addSheet (m_Parts_partsOn σ x0).2).2) 1 ((m_Sheets_addSheet (m_Parts_partsOn σ x0).2).1) ((m_Row_at ((m_Sheets_addSheet (m_Parts_partsOn σ x0).2).2) 1 x0).toInt64)) x0 ((m_Sheets_addSheet (m_Parts_partsOn σ x0).2).1) (m_Sheets_firstOn (m_Row_set ((m_Sheets_addSheet (m_Parts_partsOn σ x0).2).2) 1 ((m_Sheets_addSheet (m_Parts_partsOn σ x0).2).1) ((m_Row_at ((m_Sheets_addSheet (m_Parts_partsOn σ x0).2).2) 1 x0).toInt64)) x0) 0) + (6 * ((m_Parts_gatesOn (m_Arrays_fillI (m_Sheets_addSheetLike (m_Parts_partsOn σ x0).2 x0).2 6 (-1)) x0).toNatClampNeg + 1)))) (n := (4 * ((2 + 37 * ct_Sheets_addSheetLike_31 ((60 : Int32).toNatClampNeg + 1) (m_Row_set ((m_Sheets_addSheet (m_Parts_partsOn σ x0).2).2) 1 ((m_Sheets_addSheet (m_Parts_partsOn σ x0).2).1) ((m_Row_at ((m_Sheets_addSheet (m_Parts_partsOn σ x0).2).2) 1 x0).toInt64)) x0 ((m_Sheets_addSheet (m_Parts_partsOn σ x0).2).1) (m_Sheets_firstOn (m_Row_set ((m_Sheets_addSheet (m_Parts_partsOn σ x0).2).2) 1 ((m_Sheets_addSheet (m_Parts_partsOn σ x0).2).1) ((m_Row_at ((m_Sheets_addSheet (m_Parts_partsOn σ x0).2).2) 1 x0).toInt64)) x0) 0) + (6 * ((m_Parts_gatesOn (m_Arrays_fillI (m_Sheets_addSheetLike (m_Parts_partsOn σ x0).2 x0).2 6 (-1)) x0).toNatClampNeg + 1))))) (by (try dsimp only); omega) (by (try dsimp only); omega) ?_
    exact ri hC hB ⟨π, hπ, rfl⟩ d_ST_copy_54
  · rw [if_neg c_2] at hR
    refine lv_aload_n hx hb d_ST_copy_17 rfl (lv_at hl 0 rfl) ?_
    refine gt hC hB _ lkC_ST rfl i_ST 1 (by decide) rfl kw_257 rfl d_ST_copy_18 ?_
    refine kV hC hB _ lkC_Sheets rfl (c_Sheets_placementsLeft σ π) allw_ok mf_Sheets_placementsLeft kw_463 kw_464 kw_462 ⟨rfl, rfl, Nat.le_of_ble_eq_true rfl, Nat.le_of_ble_eq_true rfl⟩ rfl rfl hl.1 (Nat.le_of_ble_eq_true rfl) d_ST_copy_21 (by constructor <;> (try dsimp only) <;> omega) (roK fun H locs hB => ?_)
    refine lv_aload_n hx hb d_ST_copy_24 rfl (lv_at hl 0 rfl) ?_
    refine gt hC hB _ lkC_ST rfl i_ST 1 (by decide) rfl kw_257 rfl d_ST_copy_25 ?_
    refine lv_iload_n hx hb d_ST_copy_28 rfl (lv_at hl 1 rfl) ?_
    refine kV hC hB _ lkC_Sheets rfl (c_Sheets_placementsOn σ π x0) allw_ok mf_Sheets_placementsOn kw_665 kw_666 kw_664 ⟨rfl, rfl, Nat.le_of_ble_eq_true rfl, Nat.le_of_ble_eq_true rfl⟩ rfl rfl hl.1 (Nat.le_of_ble_eq_true rfl) d_ST_copy_29 (by constructor <;> (try dsimp only) <;> omega) (roK fun H locs hB => ?_)
    refine lv_icmp_lt (tgt := 53) hx hb d_ST_copy_32 (by decide) (fun c_3 => ?_) (fun c_3 => ?_)
    · rw [if_pos c_3] at hR
      refine lv_iconst (v := (-1)) hx hb d_ST_copy_53 (by decide) ?_
      obtain ⟨rfl, rfl⟩ := Prod.mk.inj (Option.some.inj hR)
      refine W.widen (k := ((2 + 37 * ct_Sheets_addSheetLike_31 ((60 : Int32).toNatClampNeg + 1) (m_Row_set ((m_Sheets_addSheet (m_Parts_partsOn σ x0).2).2) 1 ((m_Sheets_addSheet (m_Parts_partsOn σ x0).2).1) ((m_Row_at ((m_Sheets_addSheet (m_Parts_partsOn σ x0).2).2) 1 x0).toInt64)) x0 ((m_Sheets_addSheet (m_Parts_partsOn σ x0).2).1) (m_Sheets_firstOn (m_Row_set ((m_Sheets_addSheet (m_Parts_partsOn σ x0).2).2) 1 ((m_Sheets_addSheet (m_Parts_partsOn σ x0).2).1) ((m_Row_at ((m_Sheets_addSheet (m_Parts_partsOn σ x0).2).2) 1 x0).toInt64)) x0) 0) + (6 * ((m_Parts_gatesOn (m_Arrays_fillI (m_Sheets_addSheetLike (m_Parts_partsOn σ x0).2 x0).2 6 (-1)) x0).toNatClampNeg + 1)))) (n := (4 * ((2 + 37 * ct_Sheets_addSheetLike_31 ((60 : Int32).toNatClampNeg + 1) (m_Row_set ((m_Sheets_addSheet (m_Parts_partsOn σ x0).2).2) 1 ((m_Sheets_addSheet (m_Parts_partsOn σ x0).2).1) ((m_Row_at ((m_Sheets_addSheet (m_Parts_partsOn σ x0).2).2) 1 x0).toInt64)) x0 ((m_Sheets_addSheet (m_Parts_partsOn σ x0).2).1) (m_Sheets_firstOn (m_Row_set ((m_Sheets_addSheet (m_Parts_partsOn σ x0).2).2) 1 ((m_Sheets_addSheet (m_Parts_partsOn σ x0).2).1) ((m_Row_at ((m_Sheets_addSheet (m_Parts_partsOn σ x0).2).2) 1 x0).toInt64)) x0) 0) + (6 * ((m_Parts_gatesOn (m_Arrays_fillI (m_Sheets_addSheetLike (m_Parts_partsOn σ x0).2 x0).2 6 (-1)) x0).toNatClampNeg + 1))))) (by (try dsimp only); omega) (by (try dsimp only); omega) ?_
      exact ri hC hB ⟨π, hπ, rfl⟩ d_ST_copy_54
    · rw [if_neg c_3] at hR
      refine lv_aload_n hx hb d_ST_copy_35 rfl (lv_at hl 0 rfl) ?_
      refine gt hC hB _ lkC_ST rfl i_ST 3 (by decide) rfl kw_259 rfl d_ST_copy_36 ?_
      refine kV hC hB _ lkC_Parts rfl (c_Parts_partsLeft σ π) allw_ok mf_Parts_partsLeft kw_610 kw_611 kw_609 ⟨rfl, rfl, Nat.le_of_ble_eq_true rfl, Nat.le_of_ble_eq_true rfl⟩ rfl rfl hl.1 (Nat.le_of_ble_eq_true rfl) d_ST_copy_39 (by constructor <;> (try dsimp only) <;> omega) (roK fun H locs hB => ?_)
      refine lv_aload_n hx hb d_ST_copy_42 rfl (lv_at hl 0 rfl) ?_
      refine gt hC hB _ lkC_ST rfl i_ST 3 (by decide) rfl kw_259 rfl d_ST_copy_43 ?_
      refine lv_iload_n hx hb d_ST_copy_46 rfl (lv_at hl 1 rfl) ?_
      refine kV hC hB _ lkC_Parts rfl (c_Parts_partsOn σ π x0) allw_ok mf_Parts_partsOn kw_670 kw_671 kw_669 ⟨rfl, rfl, Nat.le_of_ble_eq_true rfl, Nat.le_of_ble_eq_true rfl⟩ rfl rfl hl.1 (Nat.le_of_ble_eq_true rfl) d_ST_copy_47 (by constructor <;> (try dsimp only) <;> omega) (roK fun H locs hB => ?_)
      have hπ : RJ π ((m_Parts_partsOn σ x0).2) := rj_Parts_partsOn hπ x0
      refine lv_icmp_ge (tgt := 55) hx hb d_ST_copy_50 (by decide) (fun c_4 => ?_) (fun c_4 => ?_)
      · rw [if_pos c_4] at hR
        refine lv_aload_n hx hb d_ST_copy_55 rfl (lv_at hl 0 rfl) ?_
        refine gt hC hB _ lkC_ST rfl i_ST 1 (by decide) rfl kw_257 rfl d_ST_copy_56 ?_
        refine lv_iload_n hx hb d_ST_copy_59 rfl (lv_at hl 1 rfl) ?_
        refine kV hC hB _ lkC_Sheets rfl (c_Sheets_addSheetLike ((m_Parts_partsOn σ x0).2) π hπ x0) allw_ok mf_Sheets_addSheetLike kw_685 kw_686 kw_684 ⟨rfl, rfl, Nat.le_of_ble_eq_true rfl, Nat.le_of_ble_eq_true rfl⟩ rfl rfl hl.1 (Nat.le_of_ble_eq_true rfl) d_ST_copy_60 (by constructor <;> (try dsimp only) <;> omega) (fun H locs w hw hB => ?_)
        obtain ⟨π, hπ, rfl⟩ := hw
        refine lv_istore_n (lv' := [(2, .int ((m_Sheets_addSheetLike ((m_Parts_partsOn σ x0).2) x0).1)), (0, .ref (G 0 0)), (1, .int x0)]) hx hb d_ST_copy_63 rfl hl (by decide) rfl (fun ls hl => ?_)
        refine lv_aload_n hx hb d_ST_copy_64 rfl (lv_at hl 1 rfl) ?_
        refine gt hC hB _ lkC_ST rfl i_ST 3 (by decide) rfl kw_259 rfl d_ST_copy_65 ?_
        refine lv_iload_n hx hb d_ST_copy_68 rfl (lv_at hl 2 rfl) ?_
        refine lv_iload_n hx hb d_ST_copy_69 rfl (lv_at hl 0 rfl) ?_
        refine kV hC hB _ lkC_Parts rfl (c_Parts_addPartsLike ((m_Sheets_addSheetLike ((m_Parts_partsOn σ x0).2) x0).2) π hπ x0 ((m_Sheets_addSheetLike ((m_Parts_partsOn σ x0).2) x0).1)) allw_ok mf_Parts_addPartsLike kw_695 kw_696 kw_694 ⟨rfl, rfl, Nat.le_of_ble_eq_true rfl, Nat.le_of_ble_eq_true rfl⟩ rfl rfl hl.1 (Nat.le_of_ble_eq_true rfl) d_ST_copy_70 (by constructor <;> (try dsimp only) <;> omega) (fun H locs w hw hB => ?_)
        obtain ⟨π, hπ, rfl⟩ := hw
        refine lv_aload_n hx hb d_ST_copy_73 rfl (lv_at hl 1 rfl) ?_
        refine gt hC hB _ lkC_ST rfl i_ST 0 (by decide) rfl kw_256 rfl d_ST_copy_74 ?_
        refine kV hC hB _ lkC_Journal rfl (c_Journal_keep (m_Parts_addPartsLike ((m_Sheets_addSheetLike ((m_Parts_partsOn σ x0).2) x0).2) x0 ((m_Sheets_addSheetLike ((m_Parts_partsOn σ x0).2) x0).1)) π hπ) allw_ok mf_Journal_keep kw_329 kw_330 kw_328 ⟨rfl, rfl, Nat.le_of_ble_eq_true rfl, Nat.le_of_ble_eq_true rfl⟩ rfl rfl hl.1 (Nat.le_of_ble_eq_true rfl) d_ST_copy_77 (by constructor <;> (try dsimp only) <;> omega) (fun H locs w hw hB => ?_)
        obtain ⟨π, hπ, rfl⟩ := hw
        refine lv_iload_n hx hb d_ST_copy_80 rfl (lv_at hl 0 rfl) ?_
        obtain ⟨rfl, rfl⟩ := Prod.mk.inj (Option.some.inj hR)
        refine W.widen (k := ((2 + 37 * ct_Sheets_addSheetLike_31 ((60 : Int32).toNatClampNeg + 1) (m_Row_set ((m_Sheets_addSheet (m_Parts_partsOn σ x0).2).2) 1 ((m_Sheets_addSheet (m_Parts_partsOn σ x0).2).1) ((m_Row_at ((m_Sheets_addSheet (m_Parts_partsOn σ x0).2).2) 1 x0).toInt64)) x0 ((m_Sheets_addSheet (m_Parts_partsOn σ x0).2).1) (m_Sheets_firstOn (m_Row_set ((m_Sheets_addSheet (m_Parts_partsOn σ x0).2).2) 1 ((m_Sheets_addSheet (m_Parts_partsOn σ x0).2).1) ((m_Row_at ((m_Sheets_addSheet (m_Parts_partsOn σ x0).2).2) 1 x0).toInt64)) x0) 0) + (6 * ((m_Parts_gatesOn (m_Arrays_fillI (m_Sheets_addSheetLike (m_Parts_partsOn σ x0).2 x0).2 6 (-1)) x0).toNatClampNeg + 1)))) (n := (4 * ((2 + 37 * ct_Sheets_addSheetLike_31 ((60 : Int32).toNatClampNeg + 1) (m_Row_set ((m_Sheets_addSheet (m_Parts_partsOn σ x0).2).2) 1 ((m_Sheets_addSheet (m_Parts_partsOn σ x0).2).1) ((m_Row_at ((m_Sheets_addSheet (m_Parts_partsOn σ x0).2).2) 1 x0).toInt64)) x0 ((m_Sheets_addSheet (m_Parts_partsOn σ x0).2).1) (m_Sheets_firstOn (m_Row_set ((m_Sheets_addSheet (m_Parts_partsOn σ x0).2).2) 1 ((m_Sheets_addSheet (m_Parts_partsOn σ x0).2).1) ((m_Row_at ((m_Sheets_addSheet (m_Parts_partsOn σ x0).2).2) 1 x0).toInt64)) x0) 0) + (6 * ((m_Parts_gatesOn (m_Arrays_fillI (m_Sheets_addSheetLike (m_Parts_partsOn σ x0).2 x0).2 6 (-1)) x0).toNatClampNeg + 1))))) (by (try dsimp only); omega) (by (try dsimp only); omega) ?_
        exact ri hC hB ⟨π, hπ, rfl⟩ d_ST_copy_81
      · rw [if_neg c_4] at hR
        refine lv_iconst (v := (-1)) hx hb d_ST_copy_53 (by decide) ?_
        obtain ⟨rfl, rfl⟩ := Prod.mk.inj (Option.some.inj hR)
        refine W.widen (k := ((2 + 37 * ct_Sheets_addSheetLike_31 ((60 : Int32).toNatClampNeg + 1) (m_Row_set ((m_Sheets_addSheet (m_Parts_partsOn σ x0).2).2) 1 ((m_Sheets_addSheet (m_Parts_partsOn σ x0).2).1) ((m_Row_at ((m_Sheets_addSheet (m_Parts_partsOn σ x0).2).2) 1 x0).toInt64)) x0 ((m_Sheets_addSheet (m_Parts_partsOn σ x0).2).1) (m_Sheets_firstOn (m_Row_set ((m_Sheets_addSheet (m_Parts_partsOn σ x0).2).2) 1 ((m_Sheets_addSheet (m_Parts_partsOn σ x0).2).1) ((m_Row_at ((m_Sheets_addSheet (m_Parts_partsOn σ x0).2).2) 1 x0).toInt64)) x0) 0) + (6 * ((m_Parts_gatesOn (m_Arrays_fillI (m_Sheets_addSheetLike (m_Parts_partsOn σ x0).2 x0).2 6 (-1)) x0).toNatClampNeg + 1)))) (n := (4 * ((2 + 37 * ct_Sheets_addSheetLike_31 ((60 : Int32).toNatClampNeg + 1) (m_Row_set ((m_Sheets_addSheet (m_Parts_partsOn σ x0).2).2) 1 ((m_Sheets_addSheet (m_Parts_partsOn σ x0).2).1) ((m_Row_at ((m_Sheets_addSheet (m_Parts_partsOn σ x0).2).2) 1 x0).toInt64)) x0 ((m_Sheets_addSheet (m_Parts_partsOn σ x0).2).1) (m_Sheets_firstOn (m_Row_set ((m_Sheets_addSheet (m_Parts_partsOn σ x0).2).2) 1 ((m_Sheets_addSheet (m_Parts_partsOn σ x0).2).1) ((m_Row_at ((m_Sheets_addSheet (m_Parts_partsOn σ x0).2).2) 1 x0).toInt64)) x0) 0) + (6 * ((m_Parts_gatesOn (m_Arrays_fillI (m_Sheets_addSheetLike (m_Parts_partsOn σ x0).2 x0).2 6 (-1)) x0).toNatClampNeg + 1))))) (by (try dsimp only); omega) (by (try dsimp only); omega) ?_
        exact ri hC hB ⟨π, hπ, rfl⟩ d_ST_copy_54

set_option maxHeartbeats 400000 in
set_option maxRecDepth 100000 in
theorem x_ST_copy (htl : l.stackTraces = false) (σ : SC) (π : PJ) (x0 : Int32) (hR : m_ST_copy σ x0 = none) : MX l y_ST_copy b_ST_copy 3 (some .int) { frames := 7, cells := 1, slots := 6, locals := 157 } D classes (tyL cI cL cQ) NWL ALLW N0 N1 [.ref (G 0 0), .int x0] (wsC G cI cL cQ σ π rest) "java/lang/IndexOutOfBoundsException" 1 6 := by
  refine mx_of (own := R_ST) (by decide) rfl nwl_ok ?_
  intro p e s m below meth c hC hex hSW hB
  have hB0 := hB
  have hx := hC.1
  have hb := hC.2.1
  have hl := lv_entry ([.ref (G 0 0), .int x0]) (n := 3) (Nat.le_of_ble_eq_true rfl)
  rw [lg_entry_eq]
  generalize (lg_sl ([.ref (G 0 0), .int x0]) ++ List.replicate (3 - (lg_sl ([.ref (G 0 0), .int x0])).length) Slot.unset).toArray = ls at hl ⊢
  have hl : lv_has ls 3 [(0, .ref (G 0 0)), (1, .int x0)] := hl
  rw [m_ST_copy] at hR
  refine lv_aload_n hx hb d_ST_copy_0 rfl (lv_at hl 0 rfl) ?_
  refine lv_iload_n hx hb d_ST_copy_1 rfl (lv_at hl 1 rfl) ?_
  rcases hq_1 : m_ST_needSheet σ x0 with _ | u_1
  · refine kx hC hSW hB _ lkC_ST rfl (x_ST_needSheet htl σ π x0 hq_1) allw_ok mf_ST_needSheet kw_389 ks_5 kw_387 ⟨rfl, rfl, Nat.le_of_ble_eq_true rfl, Nat.le_of_ble_eq_true rfl⟩ rfl rfl hl.1 (Nat.le_of_ble_eq_true rfl) d_ST_copy_2 ⟨Nat.le_of_ble_eq_true rfl, Nat.le_of_ble_eq_true rfl⟩ (fun q ce H locs hB h1 h2 h3 => ?_)
    exact tx_out hC hB (by rw [hex]; intro x hx; cases hx) h1 h2 h3 (Nat.le_of_ble_eq_true rfl) (Nat.le_of_ble_eq_true rfl)
  rw [hq_1] at hR
  dsimp only at hR
  refine kV hC hB _ lkC_ST rfl (c_ST_needSheet σ π x0 u_1 hq_1) allw_ok mf_ST_needSheet kw_389 ks_5 kw_387 ⟨rfl, rfl, Nat.le_of_ble_eq_true rfl, Nat.le_of_ble_eq_true rfl⟩ rfl rfl hl.1 (Nat.le_of_ble_eq_true rfl) d_ST_copy_2 (by constructor <;> (try dsimp only) <;> omega) (roK fun H locs hB => ?_)
  refine lv_aload_n hx hb d_ST_copy_5 rfl (lv_at hl 0 rfl) ?_
  refine gt hC hB _ lkC_ST rfl i_ST 1 (by decide) rfl kw_257 rfl d_ST_copy_6 ?_
  refine kV hC hB _ lkC_Sheets rfl (c_Sheets_sheetCount σ π) allw_ok mf_Sheets_sheetCount kw_283 kw_284 kw_282 ⟨rfl, rfl, Nat.le_of_ble_eq_true rfl, Nat.le_of_ble_eq_true rfl⟩ rfl rfl hl.1 (Nat.le_of_ble_eq_true rfl) d_ST_copy_9 (by constructor <;> (try dsimp only) <;> omega) (roK fun H locs hB => ?_)
  refine lv_bipush (v := 24) hx hb d_ST_copy_12 (by decide) ?_
  refine lv_icmp_ge (tgt := 53) hx hb d_ST_copy_14 (by decide) (fun c_2 => ?_) (fun c_2 => ?_)
  · rw [if_pos c_2] at hR
    refine lv_iconst (v := (-1)) hx hb d_ST_copy_53 (by decide) ?_
    cases hR
  · rw [if_neg c_2] at hR
    refine lv_aload_n hx hb d_ST_copy_17 rfl (lv_at hl 0 rfl) ?_
    refine gt hC hB _ lkC_ST rfl i_ST 1 (by decide) rfl kw_257 rfl d_ST_copy_18 ?_
    refine kV hC hB _ lkC_Sheets rfl (c_Sheets_placementsLeft σ π) allw_ok mf_Sheets_placementsLeft kw_463 kw_464 kw_462 ⟨rfl, rfl, Nat.le_of_ble_eq_true rfl, Nat.le_of_ble_eq_true rfl⟩ rfl rfl hl.1 (Nat.le_of_ble_eq_true rfl) d_ST_copy_21 (by constructor <;> (try dsimp only) <;> omega) (roK fun H locs hB => ?_)
    refine lv_aload_n hx hb d_ST_copy_24 rfl (lv_at hl 0 rfl) ?_
    refine gt hC hB _ lkC_ST rfl i_ST 1 (by decide) rfl kw_257 rfl d_ST_copy_25 ?_
    refine lv_iload_n hx hb d_ST_copy_28 rfl (lv_at hl 1 rfl) ?_
    refine kV hC hB _ lkC_Sheets rfl (c_Sheets_placementsOn σ π x0) allw_ok mf_Sheets_placementsOn kw_665 kw_666 kw_664 ⟨rfl, rfl, Nat.le_of_ble_eq_true rfl, Nat.le_of_ble_eq_true rfl⟩ rfl rfl hl.1 (Nat.le_of_ble_eq_true rfl) d_ST_copy_29 (by constructor <;> (try dsimp only) <;> omega) (roK fun H locs hB => ?_)
    refine lv_icmp_lt (tgt := 53) hx hb d_ST_copy_32 (by decide) (fun c_3 => ?_) (fun c_3 => ?_)
    · rw [if_pos c_3] at hR
      refine lv_iconst (v := (-1)) hx hb d_ST_copy_53 (by decide) ?_
      cases hR
    · rw [if_neg c_3] at hR
      refine lv_aload_n hx hb d_ST_copy_35 rfl (lv_at hl 0 rfl) ?_
      refine gt hC hB _ lkC_ST rfl i_ST 3 (by decide) rfl kw_259 rfl d_ST_copy_36 ?_
      refine kV hC hB _ lkC_Parts rfl (c_Parts_partsLeft σ π) allw_ok mf_Parts_partsLeft kw_610 kw_611 kw_609 ⟨rfl, rfl, Nat.le_of_ble_eq_true rfl, Nat.le_of_ble_eq_true rfl⟩ rfl rfl hl.1 (Nat.le_of_ble_eq_true rfl) d_ST_copy_39 (by constructor <;> (try dsimp only) <;> omega) (roK fun H locs hB => ?_)
      refine lv_aload_n hx hb d_ST_copy_42 rfl (lv_at hl 0 rfl) ?_
      refine gt hC hB _ lkC_ST rfl i_ST 3 (by decide) rfl kw_259 rfl d_ST_copy_43 ?_
      refine lv_iload_n hx hb d_ST_copy_46 rfl (lv_at hl 1 rfl) ?_
      refine absurd hR ?_
      repeat' (first | with_reducible exact nn_some _ | with_reducible refine nn_ite ?_ ?_)
end SC
