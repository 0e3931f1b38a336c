def m_Variants_tell (σ : SC) (x0 : Int32) (x1 : Int32) (x2 : Int32) (x3 : Int32) (x4 : Int64) : Bool × SC :=
  if (m_Variants_find σ (m_Variants_subjectOf x0 x1 x3) x2) = (-1) then
    if (m_Variants_find σ (m_Variants_subjectOf x0 x1 x3) x2) = (-1) then
      if (m_Row_at σ 12 1) < 40 then
        (true, (m_Row_set ((m_Variants_addTelling σ (m_Variants_subjectOf x0 x1 x3) x2).2) 15 ((m_Variants_addTelling σ (m_Variants_subjectOf x0 x1 x3) x2).1) x4))
      else
        (false, σ)
    else
      (true, (m_Row_set σ 15 (m_Variants_find σ (m_Variants_subjectOf x0 x1 x3) x2) x4))
  else
    if (lg_cmp (m_Variants_content σ (m_Variants_find σ (m_Variants_subjectOf x0 x1 x3) x2)) x4) = 0 then
      (false, σ)
    else
      if (m_Variants_find σ (m_Variants_subjectOf x0 x1 x3) x2) = (-1) then
        if (m_Row_at σ 12 1) < 40 then
          (true, (m_Row_set ((m_Variants_addTelling σ (m_Variants_subjectOf x0 x1 x3) x2).2) 15 ((m_Variants_addTelling σ (m_Variants_subjectOf x0 x1 x3) x2).1) x4))
        else
          (false, σ)
      else
        (true, (m_Row_set σ 15 (m_Variants_find σ (m_Variants_subjectOf x0 x1 x3) x2) x4))

def m_ST_sheet (σ : SC) : Int32 × SC :=
  if (m_Sheets_sheetCount σ) < 24 then
    ((m_Sheets_addSheet σ).1, (m_Journal_keep ((m_Sheets_addSheet σ).2)))
  else
    ((-1), σ)

def lp_ST_told_4 : Nat → SC → Int32 → Int32 → Int32 → Int32
  | 0, σ, _, _, _ => 0
  | n + 1, σ, v1, v2, v3 =>
    if 32 ≤ v3 then
      (-1)
    else
      if v2 < 0 then
        (-1)
      else
        if (bi (m_ST_holdsName (xn σ 3) v3)) = 0 then
          lp_ST_told_4 n σ v1 v2 (v3 + 1)
        else
          if v2 = 0 then
            v3
          else
            lp_ST_told_4 n σ v1 (v2 + (-1)) (v3 + 1)

def m_ST_told (σ : SC) (x0 : Int32) : Int32 :=
  lp_ST_told_4 ((32 : Int32).toNatClampNeg + 1) σ x0 x0 0

def m_ST_undo (σ : SC) : Bool × SC :=
  if (bi ((m_Journal_stepBack σ).1)) = 0 then
    (false, (m_Journal_stepBack σ).2)
  else
    (true, (m_Book_lay (zn ((m_Journal_stepBack σ).2) 3 0)))

def m_ST_pages (σ : SC) : Int32 :=
  (m_Book_count σ)

def m_ST_settle (σ : SC) : Bool × SC :=
  if (bi (m_Book_isWithinLimit (m_Book_lay σ))) = 0 then
    (false, (m_Book_lay (m_Journal_takeBack (m_Book_lay σ))))
  else
    (true, (m_Journal_keep (m_Book_lay σ)))

/-! what laying the pages leaves -/
def fe (σ σ' : SC) : Prop := σ'.1 = σ.1 ∧ σ'.2.2.2 = σ.2.2.2
theorem fe_rj {π : PJ} {σ σ' : SC} (h : fe σ σ') (hπ : RJ π σ) : RJ π σ' := by
  obtain ⟨a, b, c, d⟩ := σ
  obtain ⟨a', b', c', d'⟩ := σ'
  have h2 : d' = d := h.2
  subst h2
  exact hπ
theorem fe_rf (σ : SC) : fe σ σ := ⟨rfl, rfl⟩
theorem fe_tr {σ σ' σ2 : SC} (h : fe σ σ') (h2 : fe σ' σ2) : fe σ σ2 := ⟨h2.1.trans h.1, h2.2.trans h.2⟩
theorem fe_w {σ σ' : SC} (h : fe σ σ') (j : Nat) (x y : Int32) : fe σ (m_ST_write σ' j x y) := by
  refine fe_tr h ?_
  unfold m_ST_write
  split
  · exact fe_rf _
  · split <;> exact ⟨rfl, rfl⟩
theorem fe_zn {σ σ' : SC} (h : fe σ σ') (k : Nat) (v : Int32) : fe σ (zn σ' k v) := ⟨h.1, h.2⟩
theorem fe_ap {σ σ' : SC} (h : fe σ σ') (a b c d : Int32) : fe σ (m_Book_addPage σ' a b c d).2 := by
  refine fe_tr h ?_
  unfold m_Book_addPage
  exact fe_zn (fe_w (fe_w (fe_w (fe_w (fe_w (fe_w (fe_rf _) _ _ _) _ _ _) _ _ _) _ _ _) _ _ _) _ _ _) _ _
theorem fe_f : ∀ (n : Nat) (σ : SC) (j : Nat) (v1 v2 v3 : Int32), fe σ (lp_Arrays_fillI_5 n σ j v1 v2 v3)
  | 0, _, _, _, _, _ => fe_rf _
  | n + 1, σ, j, v1, v2, v3 => by
    rw [lp_Arrays_fillI_5]
    split
    · exact fe_rf _
    · exact fe_tr ⟨rfl, rfl⟩ (fe_f n _ _ _ _ _)
theorem fe_fill (σ : SC) (j : Nat) (x : Int32) : fe σ (m_Arrays_fillI σ j x) := fe_f _ _ _ _ _ _
theorem fe_l49 (K : SC → Int32 → Int32 → SC) (hK : ∀ σ v1 v2, fe σ (K σ v1 v2)) : ∀ (n : Nat) (σ : SC) (v1 v2 v3 v4 : Int32), fe σ (lp_Book_lay_49 K n σ v1 v2 v3 v4)
  | 0, _, _, _, _, _ => fe_rf _
  | n + 1, σ, v1, v2, v3, v4 => by
    rw [lp_Book_lay_49]
    repeat' split
    all_goals first | exact fe_rf _ | exact fe_l49 K hK n _ _ _ _ _ | exact fe_tr (fe_ap (fe_rf _) _ _ _ _) (hK _ _ _)
theorem fe_l26 : ∀ (n : Nat) (σ : SC) (v1 v2 : Int32), fe σ (lp_Book_lay_26 n σ v1 v2)
  | 0, _, _, _ => fe_rf _
  | n + 1, σ, v1, v2 => by
    rw [lp_Book_lay_26]
    split
    · exact fe_rf _
    · exact fe_l49 _ (fun σ a b => fe_l26 n σ a b) _ _ _ _ _ _
theorem fe_lay (σ : SC) : fe σ (m_Book_lay σ) := by
  unfold m_Book_lay
  exact fe_tr (fe_ap (fe_zn (fe_fill _ _ _) _ _) _ _ _ _) (fe_l26 _ _ _ _)
theorem rj_Book_lay {π : PJ} {σ : SC} (h : RJ π σ) : RJ π (m_Book_lay σ) := fe_rj (fe_lay σ) h
section SC
variable {l : Launch} {D : va_G} {N0 N1 : Nat} {G : Nat → Nat → Nat} {cI cL cQ : ClassId} {rest : va_W}
set_option maxHeartbeats 400000 in
set_option maxRecDepth 100000 in
theorem c_Variants_tell  (σ : SC) (π : PJ) (hπ : RJ π σ) (x0 : Int32) (x1 : Int32) (x2 : Int32) (x3 : Int32) (x4 : Int64) : CM l y_Variants_tell b_Variants_tell 9 (some .boolean) { frames := 5, cells := ((3 + ((m_Book_depthAt (m_Row_set (m_Row_set (m_Row_set σ 12 1 ((m_Row_at σ 12 1 + 1).toInt64)) 14 (m_Row_at σ 12 1) (m_Variants_subjectOf x0 x1 x3).toInt64) 16 (m_Row_at σ 12 1) (m_Book_depthAt (m_Row_set (m_Row_set σ 12 1 ((m_Row_at σ 12 1 + 1).toInt64)) 14 (m_Row_at σ 12 1) (m_Variants_subjectOf x0 x1 x3).toInt64) x2).toInt64) x2 - 1).toNatClampNeg + 2)) + 1), slots := (4 * ((3 + ((m_Book_depthAt (m_Row_set (m_Row_set (m_Row_set σ 12 1 ((m_Row_at σ 12 1 + 1).toInt64)) 14 (m_Row_at σ 12 1) (m_Variants_subjectOf x0 x1 x3).toInt64) 16 (m_Row_at σ 12 1) (m_Book_depthAt (m_Row_set (m_Row_set σ 12 1 ((m_Row_at σ 12 1 + 1).toInt64)) 14 (m_Row_at σ 12 1) (m_Variants_subjectOf x0 x1 x3).toInt64) x2).toInt64) x2 - 1).toNatClampNeg + 2)) + 1)), locals := 112 } D (tyL cI cL cQ) N0 N0 [.ref (G 0 6), .int x0, .int x1, .int x2, .int x3, .long x4] (wsC G cI cL cQ σ π rest) (some (.int (bi ((m_Variants_tell σ x0 x1 x2 x3 x4).1)))) (pwC G cI cL cQ ((m_Variants_tell σ x0 x1 x2 x3 x4).2) rest) ((3 + ((m_Book_depthAt (m_Row_set (m_Row_set (m_Row_set σ 12 1 ((m_Row_at σ 12 1 + 1).toInt64)) 14 (m_Row_at σ 12 1) (m_Variants_subjectOf x0 x1 x3).toInt64) 16 (m_Row_at σ 12 1) (m_Book_depthAt (m_Row_set (m_Row_set σ 12 1 ((m_Row_at σ 12 1 + 1).toInt64)) 14 (m_Row_at σ 12 1) (m_Variants_subjectOf x0 x1 x3).toInt64) x2).toInt64) x2 - 1).toNatClampNeg + 2)) + 1) (4 * ((3 + ((m_Book_depthAt (m_Row_set (m_Row_set (m_Row_set σ 12 1 ((m_Row_at σ 12 1 + 1).toInt64)) 14 (m_Row_at σ 12 1) (m_Variants_subjectOf x0 x1 x3).toInt64) 16 (m_Row_at σ 12 1) (m_Book_depthAt (m_Row_set (m_Row_set σ 12 1 ((m_Row_at σ 12 1 + 1).toInt64)) 14 (m_Row_at σ 12 1) (m_Variants_subjectOf x0 x1 x3).toInt64) x2).toInt64) x2 - 1).toNatClampNeg + 2)) + 1)) := by
  generalize hR : m_Variants_tell σ x0 x1 x2 x3 x4 = RES
  obtain ⟨RV, RS⟩ := RES
  dsimp only
  refine met_of (own := R_Variants) (by decide) rfl nwl_ok ?_
  intro p e s m below meth c hC hin hB
  have hx := hC.1
  have hb := hC.2.1
  have hl := lv_entry ([.ref (G 0 6), .int x0, .int x1, .int x2, .int x3, .long x4]) (n := 9) (Nat.le_of_ble_eq_true rfl)
  rw [lg_entry_eq]
  generalize (lg_sl ([.ref (G 0 6), .int x0, .int x1, .int x2, .int x3, .long x4]) ++ List.replicate (9 - (lg_sl ([.ref (G 0 6), .int x0, .int x1, .int x2, .int x3, .long x4])).length) Slot.unset).toArray = ls at hl ⊢
  have hl : lv_has ls 9 [(0, .ref (G 0 6)), (1, .int x0), (2, .int x1), (3, .int x2), (4, .int x3), (5, .long x4)] := hl
  rw [m_Variants_tell] at hR
  refine lv_iload_n hx hb d_Variants_tell_0 rfl (lv_at hl 1 rfl) ?_
  refine lv_iload_n hx hb d_Variants_tell_1 rfl (lv_at hl 2 rfl) ?_
  refine lv_iload hx hb d_Variants_tell_2 (lv_at hl 4 rfl) ?_
  refine kS hC hB (c_Variants_subjectOf σ π x0 x1 x3) allw_ok mf_Variants_subjectOf kw_767 kw_766 ⟨rfl, rfl, Nat.le_of_ble_eq_true rfl, Nat.le_of_ble_eq_true rfl⟩ rfl rfl hl.1 (Nat.le_of_ble_eq_true rfl) d_Variants_tell_4 (by constructor <;> (try dsimp only) <;> omega) (roK fun H locs hB => ?_)
  refine lv_istore (lv' := [(7, .int (m_Variants_subjectOf x0 x1 x3)), (0, .ref (G 0 6)), (1, .int x0), (2, .int x1), (3, .int x2), (4, .int x3), (5, .long x4)]) hx hb d_Variants_tell_7 hl (by decide) rfl (fun ls hl => ?_)
  refine lv_aload_n hx hb d_Variants_tell_9 rfl (lv_at hl 1 rfl) ?_
  refine lv_iload hx hb d_Variants_tell_10 (lv_at hl 0 rfl) ?_
  refine lv_iload_n hx hb d_Variants_tell_12 rfl (lv_at hl 4 rfl) ?_
  refine kV hC hB _ lkC_Variants rfl (c_Variants_find σ π (m_Variants_subjectOf x0 x1 x3) x2) allw_ok mf_Variants_find kw_771 ks_23 kw_769 ⟨rfl, rfl, Nat.le_of_ble_eq_true rfl, Nat.le_of_ble_eq_true rfl⟩ rfl rfl hl.1 (Nat.le_of_ble_eq_true rfl) d_Variants_tell_13 (by constructor <;> (try dsimp only) <;> omega) (roK fun H locs hB => ?_)
  refine lv_istore (lv' := [(8, .int (m_Variants_find σ (m_Variants_subjectOf x0 x1 x3) x2)), (7, .int (m_Variants_subjectOf x0 x1 x3)), (0, .ref (G 0 6)), (1, .int x0), (2, .int x1), (3, .int x2), (4, .int x3), (5, .long x4)]) hx hb d_Variants_tell_16 hl (by decide) rfl (fun ls hl => ?_)
  refine lv_iload hx hb d_Variants_tell_18 (lv_at hl 0 rfl) ?_
  refine lv_iconst (v := (-1)) hx hb d_Variants_tell_20 (by decide) ?_
  refine lv_icmp_eq (tgt := 38) hx hb d_Variants_tell_21 (by decide) (fun c_1 => ?_) (fun c_1 => ?_)
  · rw [if_pos c_1] at hR
    refine lv_iload hx hb d_Variants_tell_38 (lv_at hl 0 rfl) ?_
    refine lv_iconst (v := (-1)) hx hb d_Variants_tell_40 (by decide) ?_
    refine lv_icmp_ne (tgt := 68) hx hb d_Variants_tell_41 (by decide) (fun c_2 => ?_) (fun c_2 => ?_)
    · rw [if_neg c_2] at hR
      refine lv_aload_n hx hb d_Variants_tell_68 rfl (lv_at hl 2 rfl) ?_
      refine gt hC hB _ lkC_Variants rfl i_Variants 4 (by decide) rfl kw_178 rfl d_Variants_tell_69 ?_
      refine lv_iload hx hb d_Variants_tell_72 (lv_at hl 0 rfl) ?_
      refine lv_lload hx hb d_Variants_tell_74 (lv_at hl 7 rfl) ?_
      refine kV hC hB _ (lkC_row (by decide)) rfl (c_Row_set 15 (by decide) σ π hπ (m_Variants_find σ (m_Variants_subjectOf x0 x1 x3) x2) x4) allw_ok mf_Row_set kw_292 kw_293 kw_745 ⟨rfl, rfl, Nat.le_of_ble_eq_true rfl, Nat.le_of_ble_eq_true rfl⟩ rfl rfl hl.1 (Nat.le_of_ble_eq_true rfl) d_Variants_tell_76 (by constructor <;> (try dsimp only) <;> omega) (fun H locs w hw hB => ?_)
      obtain ⟨π, hπ, rfl⟩ := hw
      refine lv_iconst (v := 1) hx hb d_Variants_tell_79 (by decide) ?_
      obtain ⟨rfl, rfl⟩ := Prod.mk.inj hR
      refine W.widen (k := ((3 + ((m_Book_depthAt (m_Row_set (m_Row_set (m_Row_set σ 12 1 ((m_Row_at σ 12 1 + 1).toInt64)) 14 (m_Row_at σ 12 1) (m_Variants_subjectOf x0 x1 x3).toInt64) 16 (m_Row_at σ 12 1) (m_Book_depthAt (m_Row_set (m_Row_set σ 12 1 ((m_Row_at σ 12 1 + 1).toInt64)) 14 (m_Row_at σ 12 1) (m_Variants_subjectOf x0 x1 x3).toInt64) x2).toInt64) x2 - 1).toNatClampNeg + 2)) + 1)) (n := (4 * ((3 + ((m_Book_depthAt (m_Row_set (m_Row_set (m_Row_set σ 12 1 ((m_Row_at σ 12 1 + 1).toInt64)) 14 (m_Row_at σ 12 1) (m_Variants_subjectOf x0 x1 x3).toInt64) 16 (m_Row_at σ 12 1) (m_Book_depthAt (m_Row_set (m_Row_set σ 12 1 ((m_Row_at σ 12 1 + 1).toInt64)) 14 (m_Row_at σ 12 1) (m_Variants_subjectOf x0 x1 x3).toInt64) x2).toInt64) x2 - 1).toNatClampNeg + 2)) + 1))) (by (try dsimp only); omega) (by (try dsimp only); omega) ?_
      exact rz (b := true) hC hB ⟨π, hπ, rfl⟩ d_Variants_tell_80
    · rw [if_pos c_2] at hR
      refine lv_aload_n hx hb d_Variants_tell_44 rfl (lv_at hl 2 rfl) ?_
      refine gt hC hB _ lkC_Variants rfl i_Variants 1 (by decide) rfl kw_175 rfl d_Variants_tell_45 ?_
      refine lv_iconst (v := 1) hx hb d_Variants_tell_48 (by decide) ?_
      refine kV hC hB _ (lkC_row (by decide)) rfl (c_Row_at 12 (by decide) σ π 1) allw_ok mf_Row_at kw_233 kw_234 kw_738 ⟨rfl, rfl, Nat.le_of_ble_eq_true rfl, Nat.le_of_ble_eq_true rfl⟩ rfl rfl hl.1 (Nat.le_of_ble_eq_true rfl) d_Variants_tell_49 (by constructor <;> (try dsimp only) <;> omega) (roK fun H locs hB => ?_)
      refine lv_bipush (v := 40) hx hb d_Variants_tell_52 (by decide) ?_
      refine lv_icmp_lt (tgt := 59) hx hb d_Variants_tell_54 (by decide) (fun c_3 => ?_) (fun c_3 => ?_)
      · rw [if_pos c_3] at hR
        refine lv_aload_n hx hb d_Variants_tell_59 rfl (lv_at hl 2 rfl) ?_
        refine lv_iload hx hb d_Variants_tell_60 (lv_at hl 1 rfl) ?_
        refine lv_iload_n hx hb d_Variants_tell_62 rfl (lv_at hl 5 rfl) ?_
        refine kV hC hB _ lkC_Variants rfl (c_Variants_addTelling σ π hπ (m_Variants_subjectOf x0 x1 x3) x2) allw_ok mf_Variants_addTelling kw_787 ks_25 kw_785 ⟨rfl, rfl, Nat.le_of_ble_eq_true rfl, Nat.le_of_ble_eq_true rfl⟩ rfl rfl hl.1 (Nat.le_of_ble_eq_true rfl) d_Variants_tell_63 (by constructor <;> (try dsimp only) <;> omega) (fun H locs w hw hB => ?_)
        obtain ⟨π, hπ, rfl⟩ := hw
        refine lv_istore (lv' := [(8, .int ((m_Variants_addTelling σ (m_Variants_subjectOf x0 x1 x3) x2).1)), (7, .int (m_Variants_subjectOf x0 x1 x3)), (0, .ref (G 0 6)), (1, .int x0), (2, .int x1), (3, .int x2), (4, .int x3), (5, .long x4)]) hx hb d_Variants_tell_66 hl (by decide) rfl (fun ls hl => ?_)
        refine lv_aload_n hx hb d_Variants_tell_68 rfl (lv_at hl 2 rfl) ?_
        refine gt hC hB _ lkC_Variants rfl i_Variants 4 (by decide) rfl kw_178 rfl d_Variants_tell_69 ?_
        refine lv_iload hx hb d_Variants_tell_72 (lv_at hl 0 rfl) ?_
        refine lv_lload hx hb d_Variants_tell_74 (lv_at hl 7 rfl) ?_
        refine kV hC hB _ (lkC_row (by decide)) rfl (c_Row_set 15 (by decide) ((m_Variants_addTelling σ (m_Variants_subjectOf x0 x1 x3) x2).2) π hπ ((m_Variants_addTelling σ (m_Variants_subjectOf x0 x1 x3) x2).1) x4) allw_ok mf_Row_set kw_292 kw_293 kw_745 ⟨rfl, rfl, Nat.le_of_ble_eq_true rfl, Nat.le_of_ble_eq_true rfl⟩ rfl rfl hl.1 (Nat.le_of_ble_eq_true rfl) d_Variants_tell_76 (by constructor <;> (try dsimp only) <;> omega) (fun H locs w hw hB => ?_)
        obtain ⟨π, hπ, rfl⟩ := hw
        refine lv_iconst (v := 1) hx hb d_Variants_tell_79 (by decide) ?_
        obtain ⟨rfl, rfl⟩ := Prod.mk.inj hR
        refine W.widen (k := ((3 + ((m_Book_depthAt (m_Row_set (m_Row_set (m_Row_set σ 12 1 ((m_Row_at σ 12 1 + 1).toInt64)) 14 (m_Row_at σ 12 1) (m_Variants_subjectOf x0 x1 x3).toInt64) 16 (m_Row_at σ 12 1) (m_Book_depthAt (m_Row_set (m_Row_set σ 12 1 ((m_Row_at σ 12 1 + 1).toInt64)) 14 (m_Row_at σ 12 1) (m_Variants_subjectOf x0 x1 x3).toInt64) x2).toInt64) x2 - 1).toNatClampNeg + 2)) + 1)) (n := (4 * ((3 + ((m_Book_depthAt (m_Row_set (m_Row_set (m_Row_set σ 12 1 ((m_Row_at σ 12 1 + 1).toInt64)) 14 (m_Row_at σ 12 1) (m_Variants_subjectOf x0 x1 x3).toInt64) 16 (m_Row_at σ 12 1) (m_Book_depthAt (m_Row_set (m_Row_set σ 12 1 ((m_Row_at σ 12 1 + 1).toInt64)) 14 (m_Row_at σ 12 1) (m_Variants_subjectOf x0 x1 x3).toInt64) x2).toInt64) x2 - 1).toNatClampNeg + 2)) + 1))) (by (try dsimp only); omega) (by (try dsimp only); omega) ?_
        exact rz (b := true) hC hB ⟨π, hπ, rfl⟩ d_Variants_tell_80
      · rw [if_neg c_3] at hR
        refine lv_iconst (v := 0) hx hb d_Variants_tell_57 (by decide) ?_
        obtain ⟨rfl, rfl⟩ := Prod.mk.inj hR
        refine W.widen (k := ((3 + ((m_Book_depthAt (m_Row_set (m_Row_set (m_Row_set σ 12 1 ((m_Row_at σ 12 1 + 1).toInt64)) 14 (m_Row_at σ 12 1) (m_Variants_subjectOf x0 x1 x3).toInt64) 16 (m_Row_at σ 12 1) (m_Book_depthAt (m_Row_set (m_Row_set σ 12 1 ((m_Row_at σ 12 1 + 1).toInt64)) 14 (m_Row_at σ 12 1) (m_Variants_subjectOf x0 x1 x3).toInt64) x2).toInt64) x2 - 1).toNatClampNeg + 2)) + 1)) (n := (4 * ((3 + ((m_Book_depthAt (m_Row_set (m_Row_set (m_Row_set σ 12 1 ((m_Row_at σ 12 1 + 1).toInt64)) 14 (m_Row_at σ 12 1) (m_Variants_subjectOf x0 x1 x3).toInt64) 16 (m_Row_at σ 12 1) (m_Book_depthAt (m_Row_set (m_Row_set σ 12 1 ((m_Row_at σ 12 1 + 1).toInt64)) 14 (m_Row_at σ 12 1) (m_Variants_subjectOf x0 x1 x3).toInt64) x2).toInt64) x2 - 1).toNatClampNeg + 2)) + 1))) (by (try dsimp only); omega) (by (try dsimp only); omega) ?_
        exact rz (b := false) hC hB ⟨π, hπ, rfl⟩ d_Variants_tell_58
  · rw [if_neg c_1] at hR
    refine lv_aload_n hx hb d_Variants_tell_24 rfl (lv_at hl 2 rfl) ?_
    refine lv_iload hx hb d_Variants_tell_25 (lv_at hl 0 rfl) ?_
    refine kV hC hB _ lkC_Variants rfl (c_Variants_content σ π (m_Variants_find σ (m_Variants_subjectOf x0 x1 x3) x2)) allw_ok mf_Variants_content kw_781 kw_782 kw_780 ⟨rfl, rfl, Nat.le_of_ble_eq_true rfl, Nat.le_of_ble_eq_true rfl⟩ rfl rfl hl.1 (Nat.le_of_ble_eq_true rfl) d_Variants_tell_27 (by constructor <;> (try dsimp only) <;> omega) (roK fun H locs hB => ?_)
    refine lv_lload hx hb d_Variants_tell_30 (lv_at hl 7 rfl) ?_
    refine W.lcmp hx hb d_Variants_tell_32 ?_
    refine lv_if_ne (tgt := 38) hx hb d_Variants_tell_33 (by decide) (fun c_4 => ?_) (fun c_4 => ?_)
    · rw [if_neg c_4] at hR
      refine lv_iload hx hb d_Variants_tell_38 (lv_at hl 0 rfl) ?_
      refine lv_iconst (v := (-1)) hx hb d_Variants_tell_40 (by decide) ?_
      refine lv_icmp_ne (tgt := 68) hx hb d_Variants_tell_41 (by decide) (fun c_5 => ?_) (fun c_5 => ?_)
      · rw [if_neg c_5] at hR
        refine lv_aload_n hx hb d_Variants_tell_68 rfl (lv_at hl 2 rfl) ?_
        refine gt hC hB _ lkC_Variants rfl i_Variants 4 (by decide) rfl kw_178 rfl d_Variants_tell_69 ?_
        refine lv_iload hx hb d_Variants_tell_72 (lv_at hl 0 rfl) ?_
        refine lv_lload hx hb d_Variants_tell_74 (lv_at hl 7 rfl) ?_
        refine kV hC hB _ (lkC_row (by decide)) rfl (c_Row_set 15 (by decide) σ π hπ (m_Variants_find σ (m_Variants_subjectOf x0 x1 x3) x2) x4) allw_ok mf_Row_set kw_292 kw_293 kw_745 ⟨rfl, rfl, Nat.le_of_ble_eq_true rfl, Nat.le_of_ble_eq_true rfl⟩ rfl rfl hl.1 (Nat.le_of_ble_eq_true rfl) d_Variants_tell_76 (by constructor <;> (try dsimp only) <;> omega) (fun H locs w hw hB => ?_)
        obtain ⟨π, hπ, rfl⟩ := hw
        refine lv_iconst (v := 1) hx hb d_Variants_tell_79 (by decide) ?_
        obtain ⟨rfl, rfl⟩ := Prod.mk.inj hR
        refine W.widen (k := ((3 + ((m_Book_depthAt (m_Row_set (m_Row_set (m_Row_set σ 12 1 ((m_Row_at σ 12 1 + 1).toInt64)) 14 (m_Row_at σ 12 1) (m_Variants_subjectOf x0 x1 x3).toInt64) 16 (m_Row_at σ 12 1) (m_Book_depthAt (m_Row_set (m_Row_set σ 12 1 ((m_Row_at σ 12 1 + 1).toInt64)) 14 (m_Row_at σ 12 1) (m_Variants_subjectOf x0 x1 x3).toInt64) x2).toInt64) x2 - 1).toNatClampNeg + 2)) + 1)) (n := (4 * ((3 + ((m_Book_depthAt (m_Row_set (m_Row_set (m_Row_set σ 12 1 ((m_Row_at σ 12 1 + 1).toInt64)) 14 (m_Row_at σ 12 1) (m_Variants_subjectOf x0 x1 x3).toInt64) 16 (m_Row_at σ 12 1) (m_Book_depthAt (m_Row_set (m_Row_set σ 12 1 ((m_Row_at σ 12 1 + 1).toInt64)) 14 (m_Row_at σ 12 1) (m_Variants_subjectOf x0 x1 x3).toInt64) x2).toInt64) x2 - 1).toNatClampNeg + 2)) + 1))) (by (try dsimp only); omega) (by (try dsimp only); omega) ?_
        exact rz (b := true) hC hB ⟨π, hπ, rfl⟩ d_Variants_tell_80
      · rw [if_pos c_5] at hR
        refine lv_aload_n hx hb d_Variants_tell_44 rfl (lv_at hl 2 rfl) ?_
        refine gt hC hB _ lkC_Variants rfl i_Variants 1 (by decide) rfl kw_175 rfl d_Variants_tell_45 ?_
        refine lv_iconst (v := 1) hx hb d_Variants_tell_48 (by decide) ?_
        refine kV hC hB _ (lkC_row (by decide)) rfl (c_Row_at 12 (by decide) σ π 1) allw_ok mf_Row_at kw_233 kw_234 kw_738 ⟨rfl, rfl, Nat.le_of_ble_eq_true rfl, Nat.le_of_ble_eq_true rfl⟩ rfl rfl hl.1 (Nat.le_of_ble_eq_true rfl) d_Variants_tell_49 (by constructor <;> (try dsimp only) <;> omega) (roK fun H locs hB => ?_)
        refine lv_bipush (v := 40) hx hb d_Variants_tell_52 (by decide) ?_
        refine lv_icmp_lt (tgt := 59) hx hb d_Variants_tell_54 (by decide) (fun c_6 => ?_) (fun c_6 => ?_)
        · rw [if_pos c_6] at hR
          refine lv_aload_n hx hb d_Variants_tell_59 rfl (lv_at hl 2 rfl) ?_
          refine lv_iload hx hb d_Variants_tell_60 (lv_at hl 1 rfl) ?_
          refine lv_iload_n hx hb d_Variants_tell_62 rfl (lv_at hl 5 rfl) ?_
          refine kV hC hB _ lkC_Variants rfl (c_Variants_addTelling σ π hπ (m_Variants_subjectOf x0 x1 x3) x2) allw_ok mf_Variants_addTelling kw_787 ks_25 kw_785 ⟨rfl, rfl, Nat.le_of_ble_eq_true rfl, Nat.le_of_ble_eq_true rfl⟩ rfl rfl hl.1 (Nat.le_of_ble_eq_true rfl) d_Variants_tell_63 (by constructor <;> (try dsimp only) <;> omega) (fun H locs w hw hB => ?_)
          obtain ⟨π, hπ, rfl⟩ := hw
          refine lv_istore (lv' := [(8, .int ((m_Variants_addTelling σ (m_Variants_subjectOf x0 x1 x3) x2).1)), (7, .int (m_Variants_subjectOf x0 x1 x3)), (0, .ref (G 0 6)), (1, .int x0), (2, .int x1), (3, .int x2), (4, .int x3), (5, .long x4)]) hx hb d_Variants_tell_66 hl (by decide) rfl (fun ls hl => ?_)
          refine lv_aload_n hx hb d_Variants_tell_68 rfl (lv_at hl 2 rfl) ?_
          refine gt hC hB _ lkC_Variants rfl i_Variants 4 (by decide) rfl kw_178 rfl d_Variants_tell_69 ?_
          refine lv_iload hx hb d_Variants_tell_72 (lv_at hl 0 rfl) ?_
          refine lv_lload hx hb d_Variants_tell_74 (lv_at hl 7 rfl) ?_
          refine kV hC hB _ (lkC_row (by decide)) rfl (c_Row_set 15 (by decide) ((m_Variants_addTelling σ (m_Variants_subjectOf x0 x1 x3) x2).2) π hπ ((m_Variants_addTelling σ (m_Variants_subjectOf x0 x1 x3) x2).1) x4) allw_ok mf_Row_set kw_292 kw_293 kw_745 ⟨rfl, rfl, Nat.le_of_ble_eq_true rfl, Nat.le_of_ble_eq_true rfl⟩ rfl rfl hl.1 (Nat.le_of_ble_eq_true rfl) d_Variants_tell_76 (by constructor <;> (try dsimp only) <;> omega) (fun H locs w hw hB => ?_)
          obtain ⟨π, hπ, rfl⟩ := hw
          refine lv_iconst (v := 1) hx hb d_Variants_tell_79 (by decide) ?_
          obtain ⟨rfl, rfl⟩ := Prod.mk.inj hR
          refine W.widen (k := ((3 + ((m_Book_depthAt (m_Row_set (m_Row_set (m_Row_set σ 12 1 ((m_Row_at σ 12 1 + 1).toInt64)) 14 (m_Row_at σ 12 1) (m_Variants_subjectOf x0 x1 x3).toInt64) 16 (m_Row_at σ 12 1) (m_Book_depthAt (m_Row_set (m_Row_set σ 12 1 ((m_Row_at σ 12 1 + 1).toInt64)) 14 (m_Row_at σ 12 1) (m_Variants_subjectOf x0 x1 x3).toInt64) x2).toInt64) x2 - 1).toNatClampNeg + 2)) + 1)) (n := (4 * ((3 + ((m_Book_depthAt (m_Row_set (m_Row_set (m_Row_set σ 12 1 ((m_Row_at σ 12 1 + 1).toInt64)) 14 (m_Row_at σ 12 1) (m_Variants_subjectOf x0 x1 x3).toInt64) 16 (m_Row_at σ 12 1) (m_Book_depthAt (m_Row_set (m_Row_set σ 12 1 ((m_Row_at σ 12 1 + 1).toInt64)) 14 (m_Row_at σ 12 1) (m_Variants_subjectOf x0 x1 x3).toInt64) x2).toInt64) x2 - 1).toNatClampNeg + 2)) + 1))) (by (try dsimp only); omega) (by (try dsimp only); omega) ?_
          exact rz (b := true) hC hB ⟨π, hπ, rfl⟩ d_Variants_tell_80
        · rw [if_neg c_6] at hR
          refine lv_iconst (v := 0) hx hb d_Variants_tell_57 (by decide) ?_
          obtain ⟨rfl, rfl⟩ := Prod.mk.inj hR
          refine W.widen (k := ((3 + ((m_Book_depthAt (m_Row_set (m_Row_set (m_Row_set σ 12 1 ((m_Row_at σ 12 1 + 1).toInt64)) 14 (m_Row_at σ 12 1) (m_Variants_subjectOf x0 x1 x3).toInt64) 16 (m_Row_at σ 12 1) (m_Book_depthAt (m_Row_set (m_Row_set σ 12 1 ((m_Row_at σ 12 1 + 1).toInt64)) 14 (m_Row_at σ 12 1) (m_Variants_subjectOf x0 x1 x3).toInt64) x2).toInt64) x2 - 1).toNatClampNeg + 2)) + 1)) (n := (4 * ((3 + ((m_Book_depthAt (m_Row_set (m_Row_set (m_Row_set σ 12 1 ((m_Row_at σ 12 1 + 1).toInt64)) 14 (m_Row_at σ 12 1) (m_Variants_subjectOf x0 x1 x3).toInt64) 16 (m_Row_at σ 12 1) (m_Book_depthAt (m_Row_set (m_Row_set σ 12 1 ((m_Row_at σ 12 1 + 1).toInt64)) 14 (m_Row_at σ 12 1) (m_Variants_subjectOf x0 x1 x3).toInt64) x2).toInt64) x2 - 1).toNatClampNeg + 2)) + 1))) (by (try dsimp only); omega) (by (try dsimp only); omega) ?_
          exact rz (b := false) hC hB ⟨π, hπ, rfl⟩ d_Variants_tell_58
    · rw [if_pos c_4] at hR
      refine lv_iconst (v := 0) hx hb d_Variants_tell_36 (by decide) ?_
      obtain ⟨rfl, rfl⟩ := Prod.mk.inj hR
      refine W.widen (k := ((3 + ((m_Book_depthAt (m_Row_set (m_Row_set (m_Row_set σ 12 1 ((m_Row_at σ 12 1 + 1).toInt64)) 14 (m_Row_at σ 12 1) (m_Variants_subjectOf x0 x1 x3).toInt64) 16 (m_Row_at σ 12 1) (m_Book_depthAt (m_Row_set (m_Row_set σ 12 1 ((m_Row_at σ 12 1 + 1).toInt64)) 14 (m_Row_at σ 12 1) (m_Variants_subjectOf x0 x1 x3).toInt64) x2).toInt64) x2 - 1).toNatClampNeg + 2)) + 1)) (n := (4 * ((3 + ((m_Book_depthAt (m_Row_set (m_Row_set (m_Row_set σ 12 1 ((m_Row_at σ 12 1 + 1).toInt64)) 14 (m_Row_at σ 12 1) (m_Variants_subjectOf x0 x1 x3).toInt64) 16 (m_Row_at σ 12 1) (m_Book_depthAt (m_Row_set (m_Row_set σ 12 1 ((m_Row_at σ 12 1 + 1).toInt64)) 14 (m_Row_at σ 12 1) (m_Variants_subjectOf x0 x1 x3).toInt64) x2).toInt64) x2 - 1).toNatClampNeg + 2)) + 1))) (by (try dsimp only); omega) (by (try dsimp only); omega) ?_
      exact rz (b := false) hC hB ⟨π, hπ, rfl⟩ d_Variants_tell_37

set_option maxHeartbeats 400000 in
set_option maxRecDepth 100000 in
theorem c_ST_sheet  (σ : SC) (π : PJ) (hπ : RJ π σ)  : CM l y_ST_sheet b_ST_sheet 2 (some .int) { frames := 5, cells := 1, slots := 4, locals := 108 } D (tyL cI cL cQ) N0 N0 [.ref (G 0 0)] (wsC G cI cL cQ σ π rest) (some (.int ((m_ST_sheet σ).1))) (pwC G cI cL cQ ((m_ST_sheet σ).2) rest) 1 4 := by
  generalize hR : m_ST_sheet σ = RES
  obtain ⟨RV, RS⟩ := RES
  dsimp only
  refine met_of (own := R_ST) (by decide) rfl nwl_ok ?_
  intro p e s m below meth c hC hin hB
  have hx := hC.1
  have hb := hC.2.1
  have hl := lv_entry ([.ref (G 0 0)]) (n := 2) (Nat.le_of_ble_eq_true rfl)
  rw [lg_entry_eq]
  generalize (lg_sl ([.ref (G 0 0)]) ++ List.replicate (2 - (lg_sl ([.ref (G 0 0)])).length) Slot.unset).toArray = ls at hl ⊢
  have hl : lv_has ls 2 [(0, .ref (G 0 0))] := hl
  rw [m_ST_sheet] at hR
  refine lv_aload_n hx hb d_ST_sheet_0 rfl (lv_at hl 0 rfl) ?_
  refine gt hC hB _ lkC_ST rfl i_ST 1 (by decide) rfl kw_257 rfl d_ST_sheet_1 ?_
  refine kV hC hB _ lkC_Sheets rfl (c_Sheets_sheetCount σ π) allw_ok mf_Sheets_sheetCount kw_283 kw_284 kw_282 ⟨rfl, rfl, Nat.le_of_ble_eq_true rfl, Nat.le_of_ble_eq_true rfl⟩ rfl rfl hl.1 (Nat.le_of_ble_eq_true rfl) d_ST_sheet_4 ⟨Nat.le_of_ble_eq_true rfl, Nat.le_of_ble_eq_true rfl⟩ (roK fun H locs hB => ?_)
  refine lv_bipush (v := 24) hx hb d_ST_sheet_7 (by decide) ?_
  refine lv_icmp_lt (tgt := 14) hx hb d_ST_sheet_9 (by decide) (fun c_1 => ?_) (fun c_1 => ?_)
  · rw [if_pos c_1] at hR
    refine lv_aload_n hx hb d_ST_sheet_14 rfl (lv_at hl 0 rfl) ?_
    refine gt hC hB _ lkC_ST rfl i_ST 1 (by decide) rfl kw_257 rfl d_ST_sheet_15 ?_
    refine kV hC hB _ lkC_Sheets rfl (c_Sheets_addSheet σ π hπ) allw_ok mf_Sheets_addSheet kw_287 kw_288 kw_286 ⟨rfl, rfl, Nat.le_of_ble_eq_true rfl, Nat.le_of_ble_eq_true rfl⟩ rfl rfl hl.1 (Nat.le_of_ble_eq_true rfl) d_ST_sheet_18 ⟨Nat.le_of_ble_eq_true rfl, Nat.le_of_ble_eq_true rfl⟩ (fun H locs w hw hB => ?_)
    obtain ⟨π, hπ, rfl⟩ := hw
    refine lv_istore_n (lv' := [(1, .int ((m_Sheets_addSheet σ).1)), (0, .ref (G 0 0))]) hx hb d_ST_sheet_21 rfl hl (by decide) rfl (fun ls hl => ?_)
    refine lv_aload_n hx hb d_ST_sheet_22 rfl (lv_at hl 1 rfl) ?_
    refine gt hC hB _ lkC_ST rfl i_ST 0 (by decide) rfl kw_256 rfl d_ST_sheet_23 ?_
    refine kV hC hB _ lkC_Journal rfl (c_Journal_keep ((m_Sheets_addSheet σ).2) π hπ) allw_ok mf_Journal_keep kw_329 kw_330 kw_328 ⟨rfl, rfl, Nat.le_of_ble_eq_true rfl, Nat.le_of_ble_eq_true rfl⟩ rfl rfl hl.1 (Nat.le_of_ble_eq_true rfl) d_ST_sheet_26 ⟨Nat.le_of_ble_eq_true rfl, Nat.le_of_ble_eq_true rfl⟩ (fun H locs w hw hB => ?_)
    obtain ⟨π, hπ, rfl⟩ := hw
    refine lv_iload_n hx hb d_ST_sheet_29 rfl (lv_at hl 0 rfl) ?_
    obtain ⟨rfl, rfl⟩ := Prod.mk.inj hR
    refine W.widen (k := 1) (n := 4) (Nat.le_of_ble_eq_true rfl) (Nat.le_of_ble_eq_true rfl) ?_
    exact ri hC hB ⟨π, hπ, rfl⟩ d_ST_sheet_30
  · rw [if_neg c_1] at hR
    refine lv_iconst (v := (-1)) hx hb d_ST_sheet_12 (by decide) ?_
    obtain ⟨rfl, rfl⟩ := Prod.mk.inj hR
    refine W.widen (k := 1) (n := 4) (Nat.le_of_ble_eq_true rfl) (Nat.le_of_ble_eq_true rfl) ?_
    exact ri hC hB ⟨π, hπ, rfl⟩ d_ST_sheet_13

set_option maxHeartbeats 400000 in
set_option maxRecDepth 100000 in
theorem w_ST_told_4 {p : Program} {e : Env} {s : State} {m : MethodId} {args : Array Value} {below : List Frame} {meth : Method} {c : Code} {RES : Int32}  (σ : SC) (π : PJ) (hC : cx D classes (tyL cI cL cQ) NWL ALLW N1 p s m args meth c b_ST_told 4 (some .int) R_ST) :
    ∀ (n : Nat) (v1 : Int32) (v2 : Int32) (v3 : Int32), upI n (32 : Int32) v3 → lp_ST_told_4 n σ  v1 v2 v3 = RES → ∀ (H : Heap) (locs : List Loc), bd D classes N0 N1 (wsC G cI cL cQ σ π rest) s H locs → ∀ (ls : Array Slot), lv_has ls 4 [(0, .ref (G 0 0)), (1, .int v1), (2, .int v2), (3, .int v3)] → W p l e { frames := 1, cells := 0, slots := 0, locals := 21 } s m args below meth c H locs 0 0 (MQ below (qx D classes N0 N1 (some (.int RES)) (fun w => w = wsC G cI cL cQ σ π rest)) args s 0 0 (ga N1)) (F0 m 4 ls []) := by
  have hx := hC.1
  have hb := hC.2.1
  intro n
  induction n with
  | zero =>
    intro v1 v2 v3 hI
    exact absurd hI up_zero
  | succ n ih =>
    intro v1 v2 v3 hI hR H locs hB ls hl
    rw [lp_ST_told_4] at hR
    refine lv_iload_n hx hb d_ST_told_4 rfl (lv_at hl 3 rfl) ?_
    refine lv_bipush (v := 32) hx hb d_ST_told_5 (by decide) ?_
    refine lv_icmp_ge (tgt := 40) hx hb d_ST_told_7 (by decide) (fun c_1 => ?_) (fun c_1 => ?_)
    · rw [if_pos c_1] at hR
      refine lv_iconst (v := (-1)) hx hb d_ST_told_40 (by decide) ?_
      subst hR
      exact ri hC hB rfl d_ST_told_41
    · rw [if_neg c_1] at hR
      refine lv_iload_n hx hb d_ST_told_10 rfl (lv_at hl 2 rfl) ?_
      refine lv_if_lt (tgt := 40) hx hb d_ST_told_11 (by decide) (fun c_2 => ?_) (fun c_2 => ?_)
      · rw [if_pos c_2] at hR
        refine lv_iconst (v := (-1)) hx hb d_ST_told_40 (by decide) ?_
        subst hR
        exact ri hC hB rfl d_ST_told_41
      · rw [if_neg c_2] at hR
        refine lv_aload_n hx hb d_ST_told_14 rfl (lv_at hl 0 rfl) ?_
        refine gt (v := .int (xn σ 3)) hC hB _ lkC_ST rfl i_ST 6 (by decide) rfl kw_262 rfl d_ST_told_15 ?_
        refine lv_iload_n hx hb d_ST_told_18 rfl (lv_at hl 3 rfl) ?_
        refine kS hC hB (c_ST_holdsName σ π (xn σ 3) v3) allw_ok mf_ST_holdsName kw_352 kw_351 ⟨rfl, rfl, Nat.le_of_ble_eq_true rfl, Nat.le_of_ble_eq_true rfl⟩ rfl rfl hl.1 (Nat.le_of_ble_eq_true rfl) d_ST_told_19 ⟨Nat.le_of_ble_eq_true rfl, Nat.le_of_ble_eq_true rfl⟩ (roK fun H locs hB => ?_)
        refine lv_if_eq (tgt := 34) hx hb d_ST_told_22 (by decide) (fun c_3 => ?_) (fun c_3 => ?_)
        · rw [if_pos c_3] at hR
          refine lv_iinc (v := (v3 + 1)) (lv' := [(3, .int (v3 + 1)), (0, .ref (G 0 0)), (1, .int v1), (2, .int v2)]) hx hb d_ST_told_34 hl (k := 3) rfl rfl (by decide) rfl (fun ls hl => ?_)
          refine lv_goto (tgt := 4) hx hb d_ST_told_37 (by decide) ?_
          exact ih v1 v2 (v3 + 1) (up_step hI (by assumption)) hR _ _ hB ls (lv_sub hl [1, 2, 3, 0] rfl)
        · rw [if_neg c_3] at hR
          refine lv_iload_n hx hb d_ST_told_25 rfl (lv_at hl 2 rfl) ?_
          refine lv_if_ne (tgt := 31) hx hb d_ST_told_26 (by decide) (fun c_4 => ?_) (fun c_4 => ?_)
          · rw [if_neg c_4] at hR
            refine lv_iinc (v := (v2 + (-1))) (lv' := [(2, .int (v2 + (-1))), (0, .ref (G 0 0)), (1, .int v1), (3, .int v3)]) hx hb d_ST_told_31 hl (k := 2) rfl rfl (by decide) rfl (fun ls hl => ?_)
            refine lv_iinc (v := (v3 + 1)) (lv' := [(3, .int (v3 + 1)), (2, .int (v2 + (-1))), (0, .ref (G 0 0)), (1, .int v1)]) hx hb d_ST_told_34 hl (k := 3) rfl rfl (by decide) rfl (fun ls hl => ?_)
            refine lv_goto (tgt := 4) hx hb d_ST_told_37 (by decide) ?_
            exact ih v1 (v2 + (-1)) (v3 + 1) (up_step hI (by assumption)) hR _ _ hB ls (lv_sub hl [2, 3, 1, 0] rfl)
          · rw [if_pos c_4] at hR
            refine lv_iload_n hx hb d_ST_told_29 rfl (lv_at hl 3 rfl) ?_
            subst hR
            exact ri hC hB rfl d_ST_told_30

set_option maxHeartbeats 400000 in
set_option maxRecDepth 100000 in
theorem c_ST_told  (σ : SC) (π : PJ) (x0 : Int32) : CM l y_ST_told b_ST_told 4 (some .int) { frames := 1, cells := 0, slots := 0, locals := 21 } D (tyL cI cL cQ) N0 N1 [.ref (G 0 0), .int x0] (wsC G cI cL cQ σ π rest) (some (.int (m_ST_told σ x0))) (fun w => w = wsC G cI cL cQ σ π rest) 0 0 := by
  generalize hR : m_ST_told σ x0 = RES
  refine met_of (own := R_ST) (by decide) rfl nwl_ok ?_
  intro p e s m below meth c hC hin hB
  have hx := hC.1
  have hb := hC.2.1
  have hl := lv_entry ([.ref (G 0 0), .int x0]) (n := 4) (Nat.le_of_ble_eq_true rfl)
  rw [lg_entry_eq]
  generalize (lg_sl ([.ref (G 0 0), .int x0]) ++ List.replicate (4 - (lg_sl ([.ref (G 0 0), .int x0])).length) Slot.unset).toArray = ls at hl ⊢
  have hl : lv_has ls 4 [(0, .ref (G 0 0)), (1, .int x0)] := hl
  rw [m_ST_told] at hR
  refine lv_iload_n hx hb d_ST_told_0 rfl (lv_at hl 1 rfl) ?_
  refine lv_istore_n (lv' := [(2, .int x0), (0, .ref (G 0 0)), (1, .int x0)]) hx hb d_ST_told_1 rfl hl (by decide) rfl (fun ls hl => ?_)
  refine lv_iconst (v := 0) hx hb d_ST_told_2 (by decide) ?_
  refine lv_istore_n (lv' := [(3, .int 0), (2, .int x0), (0, .ref (G 0 0)), (1, .int x0)]) hx hb d_ST_told_3 rfl hl (by decide) rfl (fun ls hl => ?_)
  exact w_ST_told_4  σ π hC ((32 : Int32).toNatClampNeg + 1) x0 x0 0 (up_init _) hR _ _ hB ls (lv_sub hl [2, 3, 1, 0] rfl)

set_option maxHeartbeats 400000 in
set_option maxRecDepth 100000 in
theorem c_ST_undo  (σ : SC) (π : PJ) (hπ : RJ π σ)  : CM l y_ST_undo b_ST_undo 1 (some .boolean) { frames := 4, cells := 0, slots := 0, locals := 91 } D (tyL cI cL cQ) N0 N0 [.ref (G 0 0)] (wsC G cI cL cQ σ π rest) (some (.int (bi ((m_ST_undo σ).1)))) (pwC G cI cL cQ ((m_ST_undo σ).2) rest) 0 0 := by
  generalize hR : m_ST_undo σ = RES
  obtain ⟨RV, RS⟩ := RES
  dsimp only
  refine met_of (own := R_ST) (by decide) rfl nwl_ok ?_
  intro p e s m below meth c hC hin hB
  have hx := hC.1
  have hb := hC.2.1
  have hl := lv_entry ([.ref (G 0 0)]) (n := 1) (Nat.le_of_ble_eq_true rfl)
  rw [lg_entry_eq]
  generalize (lg_sl ([.ref (G 0 0)]) ++ List.replicate (1 - (lg_sl ([.ref (G 0 0)])).length) Slot.unset).toArray = ls at hl ⊢
  have hl : lv_has ls 1 [(0, .ref (G 0 0))] := hl
  rw [m_ST_undo] at hR
  refine lv_aload_n hx hb d_ST_undo_0 rfl (lv_at hl 0 rfl) ?_
  refine gt hC hB _ lkC_ST rfl i_ST 0 (by decide) rfl kw_256 rfl d_ST_undo_1 ?_
  refine kV hC hB _ lkC_Journal rfl (c_Journal_stepBack σ π hπ) allw_ok mf_Journal_stepBack kw_359 kw_360 kw_358 ⟨rfl, rfl, Nat.le_of_ble_eq_true rfl, Nat.le_of_ble_eq_true rfl⟩ rfl rfl hl.1 (Nat.le_of_ble_eq_true rfl) d_ST_undo_4 ⟨Nat.le_of_ble_eq_true rfl, Nat.le_of_ble_eq_true rfl⟩ (fun H locs w hw hB => ?_)
  obtain ⟨π, hπ, rfl⟩ := hw
  refine lv_if_ne (tgt := 12) hx hb d_ST_undo_7 (by decide) (fun c_1 => ?_) (fun c_1 => ?_)
  · rw [if_neg c_1] at hR
    refine lv_aload_n hx hb d_ST_undo_12 rfl (lv_at hl 0 rfl) ?_
    refine lv_iconst (v := 0) hx hb d_ST_undo_13 (by decide) ?_
    refine pt (ty := .int) rfl hC hB _ lkC_ST rfl i_ST t_ST t_ST_ok n_ST 6 (by decide) rfl rfl kw_262 (by decide +kernel) rfl rfl (Nat.le_of_ble_eq_true rfl) d_ST_undo_14 (ws' := wsC G cI cL cQ (zn ((m_Journal_stepBack σ).2) 3 0) π rest) setC_n3 (fun H locs hB => ?_)
    have hπ : RJ π (zn ((m_Journal_stepBack σ).2) 3 0) := hπ
    refine lv_aload_n hx hb d_ST_undo_17 rfl (lv_at hl 0 rfl) ?_
    refine gt hC hB _ lkC_ST rfl i_ST 2 (by decide) rfl kw_258 rfl d_ST_undo_18 ?_
    refine kV hC hB _ lkC_Book rfl (c_Book_lay (zn ((m_Journal_stepBack σ).2) 3 0) π) allw_ok mf_Book_lay kw_199 kw_200 kw_198 ⟨rfl, rfl, Nat.le_of_ble_eq_true rfl, Nat.le_of_ble_eq_true rfl⟩ rfl rfl hl.1 (Nat.le_of_ble_eq_true rfl) d_ST_undo_21 ⟨Nat.le_of_ble_eq_true rfl, Nat.le_of_ble_eq_true rfl⟩ (roK fun H locs hB => ?_)
    have hπ : RJ π (m_Book_lay (zn ((m_Journal_stepBack σ).2) 3 0)) := rj_Book_lay hπ 
    refine lv_iconst (v := 1) hx hb d_ST_undo_24 (by decide) ?_
    obtain ⟨rfl, rfl⟩ := Prod.mk.inj hR
    exact rz (b := true) hC hB ⟨π, hπ, rfl⟩ d_ST_undo_25
  · rw [if_pos c_1] at hR
    refine lv_iconst (v := 0) hx hb d_ST_undo_10 (by decide) ?_
    obtain ⟨rfl, rfl⟩ := Prod.mk.inj hR
    exact rz (b := false) hC hB ⟨π, hπ, rfl⟩ d_ST_undo_11

set_option maxHeartbeats 400000 in
set_option maxRecDepth 100000 in
theorem c_ST_pages  (σ : SC) (π : PJ)  : CM l y_ST_pages b_ST_pages 1 (some .int) { frames := 1, cells := 0, slots := 0, locals := 20 } D (tyL cI cL cQ) N0 N1 [.ref (G 0 0)] (wsC G cI cL cQ σ π rest) (some (.int (m_ST_pages σ))) (fun w => w = wsC G cI cL cQ σ π rest) 0 0 := by
  generalize hR : m_ST_pages σ = RES
  refine met_of (own := R_ST) (by decide) rfl nwl_ok ?_
  intro p e s m below meth c hC hin hB
  have hx := hC.1
  have hb := hC.2.1
  have hl := lv_entry ([.ref (G 0 0)]) (n := 1) (Nat.le_of_ble_eq_true rfl)
  rw [lg_entry_eq]
  generalize (lg_sl ([.ref (G 0 0)]) ++ List.replicate (1 - (lg_sl ([.ref (G 0 0)])).length) Slot.unset).toArray = ls at hl ⊢
  have hl : lv_has ls 1 [(0, .ref (G 0 0))] := hl
  rw [m_ST_pages] at hR
  refine lv_aload_n hx hb d_ST_pages_0 rfl (lv_at hl 0 rfl) ?_
  refine gt hC hB _ lkC_ST rfl i_ST 2 (by decide) rfl kw_258 rfl d_ST_pages_1 ?_
  refine kV hC hB _ lkC_Book rfl (c_Book_count σ π) allw_ok mf_Book_count kw_376 kw_377 kw_375 ⟨rfl, rfl, Nat.le_of_ble_eq_true rfl, Nat.le_of_ble_eq_true rfl⟩ rfl rfl hl.1 (Nat.le_of_ble_eq_true rfl) d_ST_pages_4 ⟨Nat.le_of_ble_eq_true rfl, Nat.le_of_ble_eq_true rfl⟩ (roK fun H locs hB => ?_)
  subst hR
  exact ri hC hB rfl d_ST_pages_7

set_option maxHeartbeats 400000 in
set_option maxRecDepth 100000 in
theorem c_ST_settle  (σ : SC) (π : PJ) (hπ : RJ π σ)  : CM l y_ST_settle b_ST_settle 1 (some .boolean) { frames := 4, cells := 0, slots := 0, locals := 91 } D (tyL cI cL cQ) N0 N0 [.ref (G 0 0)] (wsC G cI cL cQ σ π rest) (some (.int (bi ((m_ST_settle σ).1)))) (pwC G cI cL cQ ((m_ST_settle σ).2) rest) 0 0 := by
  generalize hR : m_ST_settle σ = RES
  obtain ⟨RV, RS⟩ := RES
  dsimp only
  refine met_of (own := R_ST) (by decide) rfl nwl_ok ?_
  intro p e s m below meth c hC hin hB
  have hx := hC.1
  have hb := hC.2.1
  have hl := lv_entry ([.ref (G 0 0)]) (n := 1) (Nat.le_of_ble_eq_true rfl)
  rw [lg_entry_eq]
  generalize (lg_sl ([.ref (G 0 0)]) ++ List.replicate (1 - (lg_sl ([.ref (G 0 0)])).length) Slot.unset).toArray = ls at hl ⊢
  have hl : lv_has ls 1 [(0, .ref (G 0 0))] := hl
  rw [m_ST_settle] at hR
  refine lv_aload_n hx hb d_ST_settle_0 rfl (lv_at hl 0 rfl) ?_
  refine gt hC hB _ lkC_ST rfl i_ST 2 (by decide) rfl kw_258 rfl d_ST_settle_1 ?_
  refine kV hC hB _ lkC_Book rfl (c_Book_lay σ π) allw_ok mf_Book_lay kw_199 kw_200 kw_198 ⟨rfl, rfl, Nat.le_of_ble_eq_true rfl, Nat.le_of_ble_eq_true rfl⟩ rfl rfl hl.1 (Nat.le_of_ble_eq_true rfl) d_ST_settle_4 ⟨Nat.le_of_ble_eq_true rfl, Nat.le_of_ble_eq_true rfl⟩ (roK fun H locs hB => ?_)
  have hπ : RJ π (m_Book_lay σ) := rj_Book_lay hπ 
  refine lv_aload_n hx hb d_ST_settle_7 rfl (lv_at hl 0 rfl) ?_
  refine gt hC hB _ lkC_ST rfl i_ST 2 (by decide) rfl kw_258 rfl d_ST_settle_8 ?_
  refine kV hC hB _ lkC_Book rfl (c_Book_isWithinLimit (m_Book_lay σ) π) allw_ok mf_Book_isWithinLimit kw_500 kw_501 kw_499 ⟨rfl, rfl, Nat.le_of_ble_eq_true rfl, Nat.le_of_ble_eq_true rfl⟩ rfl rfl hl.1 (Nat.le_of_ble_eq_true rfl) d_ST_settle_11 ⟨Nat.le_of_ble_eq_true rfl, Nat.le_of_ble_eq_true rfl⟩ (roK fun H locs hB => ?_)
  refine lv_if_eq (tgt := 26) hx hb d_ST_settle_14 (by decide) (fun c_1 => ?_) (fun c_1 => ?_)
  · rw [if_pos c_1] at hR
    refine lv_aload_n hx hb d_ST_settle_26 rfl (lv_at hl 0 rfl) ?_
    refine gt hC hB _ lkC_ST rfl i_ST 0 (by decide) rfl kw_256 rfl d_ST_settle_27 ?_
    refine kV hC hB _ lkC_Journal rfl (cj_takeBack (m_Book_lay σ) π hπ) allw_ok mf_Journal_takeBack kw_363 kw_364 kw_503 ⟨rfl, rfl, Nat.le_of_ble_eq_true rfl, Nat.le_of_ble_eq_true rfl⟩ rfl rfl hl.1 (Nat.le_of_ble_eq_true rfl) d_ST_settle_30 ⟨Nat.le_of_ble_eq_true rfl, Nat.le_of_ble_eq_true rfl⟩ (fun H locs w hw hB => ?_)
    obtain ⟨π, hπ, rfl⟩ := hw
    refine lv_aload_n hx hb d_ST_settle_33 rfl (lv_at hl 0 rfl) ?_
    refine gt hC hB _ lkC_ST rfl i_ST 2 (by decide) rfl kw_258 rfl d_ST_settle_34 ?_
    refine kV hC hB _ lkC_Book rfl (c_Book_lay (m_Journal_takeBack (m_Book_lay σ)) π) allw_ok mf_Book_lay kw_199 kw_200 kw_198 ⟨rfl, rfl, Nat.le_of_ble_eq_true rfl, Nat.le_of_ble_eq_true rfl⟩ rfl rfl hl.1 (Nat.le_of_ble_eq_true rfl) d_ST_settle_37 ⟨Nat.le_of_ble_eq_true rfl, Nat.le_of_ble_eq_true rfl⟩ (roK fun H locs hB => ?_)
    have hπ : RJ π (m_Book_lay (m_Journal_takeBack (m_Book_lay σ))) := rj_Book_lay hπ 
    refine lv_iconst (v := 0) hx hb d_ST_settle_40 (by decide) ?_
    obtain ⟨rfl, rfl⟩ := Prod.mk.inj hR
    exact rz (b := false) hC hB ⟨π, hπ, rfl⟩ d_ST_settle_41
  · rw [if_neg c_1] at hR
    refine lv_aload_n hx hb d_ST_settle_17 rfl (lv_at hl 0 rfl) ?_
    refine gt hC hB _ lkC_ST rfl i_ST 0 (by decide) rfl kw_256 rfl d_ST_settle_18 ?_
    refine kV hC hB _ lkC_Journal rfl (c_Journal_keep (m_Book_lay σ) π hπ) allw_ok mf_Journal_keep kw_329 kw_330 kw_328 ⟨rfl, rfl, Nat.le_of_ble_eq_true rfl, Nat.le_of_ble_eq_true rfl⟩ rfl rfl hl.1 (Nat.le_of_ble_eq_true rfl) d_ST_settle_21 ⟨Nat.le_of_ble_eq_true rfl, Nat.le_of_ble_eq_true rfl⟩ (fun H locs w hw hB => ?_)
    obtain ⟨π, hπ, rfl⟩ := hw
    refine lv_iconst (v := 1) hx hb d_ST_settle_24 (by decide) ?_
    obtain ⟨rfl, rfl⟩ := Prod.mk.inj hR
    exact rz (b := true) hC hB ⟨π, hπ, rfl⟩ d_ST_settle_25
end SC
