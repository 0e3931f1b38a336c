section SC
variable {l : Launch} {D : va_G} {N0 N1 : Nat} {G : Nat → Nat → Nat} {cI cL cQ : ClassId} {rest : va_W}
set_option maxHeartbeats 400000 in
set_option maxRecDepth 100000 in
theorem c0_ST_copy (σ : SC) (π : PJ) (hπ : RJ π σ) (x0 : Int32) (RES : Int32 × SC) (hR : m_ST_copy σ x0 = some RES) (hF : cpF σ x0) : CM l y_ST_copy b_ST_copy 3 (some .int) { frames := 7, cells := 0, slots := 0, locals := 157 } D (tyL cI cL cQ) N0 N0 [.ref (G 0 0), .int x0] (wsC G cI cL cQ σ π rest) (some (.int RES.1)) (pwC G cI cL cQ RES.2 rest) 0 0 := by
  obtain ⟨RV, RS⟩ := RES
  dsimp only
  refine met_of (own := R_ST) (by decide) rfl nwl_ok ?_
  intro p e s m below meth c hC hin hB
  have hx := hC.1
  have hb := hC.2.1
  have hl := lv_entry ([.ref (G 0 0), .int x0]) (n := 3) (Nat.le_of_ble_eq_true rfl)
  rw [lg_entry_eq]
  generalize (lg_sl ([.ref (G 0 0), .int x0]) ++ List.replicate (3 - (lg_sl ([.ref (G 0 0), .int x0])).length) Slot.unset).toArray = ls at hl ⊢
  have hl : lv_has ls 3 [(0, .ref (G 0 0)), (1, .int x0)] := hl
  rw [m_ST_copy] at hR
  refine lv_aload_n hx hb d_ST_copy_0 rfl (lv_at hl 0 rfl) ?_
  refine lv_iload_n hx hb d_ST_copy_1 rfl (lv_at hl 1 rfl) ?_
  obtain ⟨u_1, hq_1⟩ : ∃ z, m_ST_needSheet σ x0 = some z := by
    cases hz : m_ST_needSheet σ x0 with
    | none => rw [hz] at hR; cases hR
    | some z => exact ⟨z, rfl⟩
  rw [hq_1] at hR
  dsimp only at hR
  refine kV hC hB _ lkC_ST rfl (c_ST_needSheet σ π x0 u_1 hq_1) allw_ok mf_ST_needSheet kw_389 ks_5 kw_387 ⟨rfl, rfl, Nat.le_of_ble_eq_true rfl, Nat.le_of_ble_eq_true rfl⟩ rfl rfl hl.1 (Nat.le_of_ble_eq_true rfl) d_ST_copy_2 (by constructor <;> (try dsimp only) <;> omega) (roK fun H locs hB => ?_)
  refine lv_aload_n hx hb d_ST_copy_5 rfl (lv_at hl 0 rfl) ?_
  refine gt hC hB _ lkC_ST rfl i_ST 1 (by decide) rfl kw_257 rfl d_ST_copy_6 ?_
  refine kV hC hB _ lkC_Sheets rfl (c_Sheets_sheetCount σ π) allw_ok mf_Sheets_sheetCount kw_283 kw_284 kw_282 ⟨rfl, rfl, Nat.le_of_ble_eq_true rfl, Nat.le_of_ble_eq_true rfl⟩ rfl rfl hl.1 (Nat.le_of_ble_eq_true rfl) d_ST_copy_9 (by constructor <;> (try dsimp only) <;> omega) (roK fun H locs hB => ?_)
  refine lv_bipush (v := 24) hx hb d_ST_copy_12 (by decide) ?_
  refine lv_icmp_ge (tgt := 53) hx hb d_ST_copy_14 (by decide) (fun c_2 => ?_) (fun c_2 => ?_)
  · rw [if_pos c_2] at hR
    refine lv_iconst (v := (-1)) hx hb d_ST_copy_53 (by decide) ?_
    obtain ⟨rfl, rfl⟩ := Prod.mk.inj (Option.some.inj hR)
    exact ri hC hB ⟨π, hπ, rfl⟩ d_ST_copy_54
  · rw [if_neg c_2] at hR
    refine lv_aload_n hx hb d_ST_copy_17 rfl (lv_at hl 0 rfl) ?_
    refine gt hC hB _ lkC_ST rfl i_ST 1 (by decide) rfl kw_257 rfl d_ST_copy_18 ?_
    refine kV hC hB _ lkC_Sheets rfl (c_Sheets_placementsLeft σ π) allw_ok mf_Sheets_placementsLeft kw_463 kw_464 kw_462 ⟨rfl, rfl, Nat.le_of_ble_eq_true rfl, Nat.le_of_ble_eq_true rfl⟩ rfl rfl hl.1 (Nat.le_of_ble_eq_true rfl) d_ST_copy_21 (by constructor <;> (try dsimp only) <;> omega) (roK fun H locs hB => ?_)
    refine lv_aload_n hx hb d_ST_copy_24 rfl (lv_at hl 0 rfl) ?_
    refine gt hC hB _ lkC_ST rfl i_ST 1 (by decide) rfl kw_257 rfl d_ST_copy_25 ?_
    refine lv_iload_n hx hb d_ST_copy_28 rfl (lv_at hl 1 rfl) ?_
    refine kV hC hB _ lkC_Sheets rfl (c_Sheets_placementsOn σ π x0) allw_ok mf_Sheets_placementsOn kw_665 kw_666 kw_664 ⟨rfl, rfl, Nat.le_of_ble_eq_true rfl, Nat.le_of_ble_eq_true rfl⟩ rfl rfl hl.1 (Nat.le_of_ble_eq_true rfl) d_ST_copy_29 (by constructor <;> (try dsimp only) <;> omega) (roK fun H locs hB => ?_)
    refine lv_icmp_lt (tgt := 53) hx hb d_ST_copy_32 (by decide) (fun c_3 => ?_) (fun c_3 => ?_)
    · rw [if_pos c_3] at hR
      refine lv_iconst (v := (-1)) hx hb d_ST_copy_53 (by decide) ?_
      obtain ⟨rfl, rfl⟩ := Prod.mk.inj (Option.some.inj hR)
      exact ri hC hB ⟨π, hπ, rfl⟩ d_ST_copy_54
    · rw [if_neg c_3] at hR
      refine lv_aload_n hx hb d_ST_copy_35 rfl (lv_at hl 0 rfl) ?_
      refine gt hC hB _ lkC_ST rfl i_ST 3 (by decide) rfl kw_259 rfl d_ST_copy_36 ?_
      refine kV hC hB _ lkC_Parts rfl (c_Parts_partsLeft σ π) allw_ok mf_Parts_partsLeft kw_610 kw_611 kw_609 ⟨rfl, rfl, Nat.le_of_ble_eq_true rfl, Nat.le_of_ble_eq_true rfl⟩ rfl rfl hl.1 (Nat.le_of_ble_eq_true rfl) d_ST_copy_39 (by constructor <;> (try dsimp only) <;> omega) (roK fun H locs hB => ?_)
      refine lv_aload_n hx hb d_ST_copy_42 rfl (lv_at hl 0 rfl) ?_
      refine gt hC hB _ lkC_ST rfl i_ST 3 (by decide) rfl kw_259 rfl d_ST_copy_43 ?_
      refine lv_iload_n hx hb d_ST_copy_46 rfl (lv_at hl 1 rfl) ?_
      refine kV hC hB _ lkC_Parts rfl (c_Parts_partsOn σ π x0) allw_ok mf_Parts_partsOn kw_670 kw_671 kw_669 ⟨rfl, rfl, Nat.le_of_ble_eq_true rfl, Nat.le_of_ble_eq_true rfl⟩ rfl rfl hl.1 (Nat.le_of_ble_eq_true rfl) d_ST_copy_47 (by constructor <;> (try dsimp only) <;> omega) (roK fun H locs hB => ?_)
      have hπ : RJ π ((m_Parts_partsOn σ x0).2) := rj_Parts_partsOn hπ x0
      refine lv_icmp_ge (tgt := 55) hx hb d_ST_copy_50 (by decide) (fun c_4 => ?_) (fun c_4 => ?_)
      · exact absurd hF (fun z => z.elim c_2 fun z => z.elim c_3 fun z => z c_4)
      · rw [if_neg c_4] at hR
        refine lv_iconst (v := (-1)) hx hb d_ST_copy_53 (by decide) ?_
        obtain ⟨rfl, rfl⟩ := Prod.mk.inj (Option.some.inj hR)
        exact ri hC hB ⟨π, hπ, rfl⟩ d_ST_copy_54
end SC
