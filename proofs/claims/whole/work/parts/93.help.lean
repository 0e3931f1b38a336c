/-! THE LAW'S HELPERS: a call, its answer into the cell of one long, 0; or its exception caught, 1 -/
abbrev HM (l : Launch) (y : MethodName) (bytes : ByteArray) (maxL : Nat) (hh : List (Nat × Nat × Nat × Nat)) (rm : Room) (D : va_G) (tys : List (ClassId × FieldType)) (N0 : Nat) (av : List Value) (ws : va_W) (v : Option Value) (PW : va_W → Prop) (mc ms : Nat) : Prop :=
  Met l y (Cond.codeWith y bytes maxL (some .int) hh :: ALLW) rm (pX D classes tys NWL N0 N0 av ws) (qx D classes N0 N0 v PW) mc ms (ga N0)
def oc (o : Nat) (cL : ClassId) (f : Nat → Int64) : Nat × va_E := (o, .inl (cL, 1, .inr (.inl f)))
def lb (b : Bool) : Int64 := if b then 1 else 0
theorem lkC_out {G : Nat → Nat → Nat} {cI cL cQ : ClassId} {σ : SC} {π : PJ} {rest : va_W} {o : Nat} {f : Nat → Int64} : (wsC G cI cL cQ σ π (oc o cL f :: rest))[52]? = some (o, .inl (cL, 1, .inr (.inl f))) := rfl
theorem setC_out {G : Nat → Nat → Nat} {cI cL cQ : ClassId} {σ : SC} {π : PJ} {rest : va_W} {o : Nat} {f : Nat → Int64} {v : Int64} : (wsC G cI cL cQ σ π (oc o cL f :: rest)).set 52 (o, .inl (cL, 1, .inr (.inl (vp_updL f (0 : Int32).toNatClampNeg v)))) = wsC G cI cL cQ σ π (oc o cL (vp_updL f 0 v) :: rest) := rfl
theorem vin0 : vp_in 0 1 := vp_in_nI (show 0 < 1 by decide) (by decide)
theorem fe_nu : ∀ (n : Nat) (σ : SC) (v1 v2 v3 v4 v5 v6 v7 : Int32), fe σ (lp_Parts_newUnitsAt_26 n σ v1 v2 v3 v4 v5 v6 v7).2
  | 0, _, _, _, _, _, _, _, _ => fe_rf _
  | n + 1, σ, v1, v2, v3, v4, v5, v6, v7 => by
    unfold lp_Parts_newUnitsAt_26
    repeat' split
    all_goals first | exact fe_rf _ | exact fe_w (fe_rf _) _ _ _ | exact fe_nu n _ _ _ _ _ _ _ _ | exact fe_tr (fe_w (fe_rf _) _ _ _) (fe_nu n _ _ _ _ _ _ _ _)
theorem fe_no : ∀ (n : Nat) (σ : SC) (v1 v2 : Int32) (v3 : Bool) (v4 v5 : Int32), fe σ (lp_Parts_numberOf_14 n σ v1 v2 v3 v4 v5).2
  | 0, _, _, _, _, _, _ => fe_rf _
  | n + 1, σ, v1, v2, v3, v4, v5 => by
    have h : fe σ (m_Parts_newUnitsAt σ v5 v1 v2).2 := fe_nu _ _ _ _ _ _ _ _ _
    unfold lp_Parts_numberOf_14
    repeat' split
    all_goals first | exact fe_rf _ | exact h | exact fe_tr h (fe_no n _ _ _ _ _ _)
theorem rj_ST_name {π : PJ} {σ : SC} (h : RJ π σ) {x0 x1 : Int32} {RES : Int32 × SC} (hR : m_ST_name σ x0 x1 = some RES) : RJ π RES.2 := by
  have hb : ∀ b, fe σ (m_Parts_numberOf σ x0 x1 b).2 := fun b => fe_tr (fe_fill σ 6 0) (fe_no _ _ _ _ _ _ _)
  unfold m_ST_name at hR
  split at hR
  · cases hR
  · split at hR
    · cases hR
    · split at hR
      · cases Option.some.inj hR; exact fe_rj (hb true) h
      · cases Option.some.inj hR; exact fe_rj (hb false) h
/-- what a telling notes, at most -/
def vlM (σ : SC) (a x0 x1 x2 : Int32) : Nat := ((3 + ((m_Book_depthAt (m_Row_set (m_Row_set (m_Row_set σ 12 1 ((m_Row_at σ 12 1 + 1).toInt64)) 14 (m_Row_at σ 12 1) (m_Variants_subjectOf a x0 x2).toInt64) 16 (m_Row_at σ 12 1) (m_Book_depthAt (m_Row_set (m_Row_set σ 12 1 ((m_Row_at σ 12 1 + 1).toInt64)) 14 (m_Row_at σ 12 1) (m_Variants_subjectOf a x0 x2).toInt64) x1).toInt64) x1 - 1).toNatClampNeg + 2)) + 1)
section HP
variable {l : Launch} {D : va_G} {N0 N1 : Nat} {G : Nat → Nat → Nat} {cI cL cQ : ClassId} {rest : va_W}
set_option maxHeartbeats 400000 in
set_option maxRecDepth 100000 in
theorem h_place (σ : SC) (π : PJ) (hπ : RJ π σ) (o : Nat) (f : Nat → Int64) (x0 : Int32) (x1 : Int32) (RES : Int32 × SC) (hR : m_ST_place σ x0 x1 = some RES) : HM l y_Law_place b_Law_place 5 [(0, 10, 13, 13)] { frames := 7, cells := 4, slots := 16, locals := 155 } D (tyL cI cL cQ) N0 [.ref (G 0 0), .int x0, .int x1, .ref o] (wsC G cI cL cQ σ π (oc o cL f :: rest)) (some (.int 0)) (pwC G cI cL cQ RES.2 (oc o cL (vp_updL f 0 RES.1.toInt64) :: rest)) 4 16 := by
  refine met_w (own := R_Law) (by decide) rfl nwl_ok ?_
  intro p e s m below meth c hC hSW htab hB
  have hx := hC.1
  have hb := hC.2.1
  have hl := lv_entry ([.ref (G 0 0), .int x0, .int x1, .ref o]) (n := 5) (Nat.le_of_ble_eq_true rfl)
  rw [lg_entry_eq]
  generalize (lg_sl ([.ref (G 0 0), .int x0, .int x1, .ref o]) ++ List.replicate (5 - (lg_sl ([.ref (G 0 0), .int x0, .int x1, .ref o])).length) Slot.unset).toArray = ls at hl ⊢
  have hl : lv_has ls 5 [(0, .ref (G 0 0)), (1, .int x0), (2, .int x1), (3, .ref o)] := hl
  refine lv_aload_n hx hb d_Law_place_0 rfl (lv_at hl 3 rfl) ?_
  refine lv_iconst (v := 0) hx hb d_Law_place_1 (by decide) ?_
  refine lv_aload_n hx hb d_Law_place_2 rfl (lv_at hl 0 rfl) ?_
  refine lv_iload_n hx hb d_Law_place_3 rfl (lv_at hl 1 rfl) ?_
  refine lv_iload_n hx hb d_Law_place_4 rfl (lv_at hl 2 rfl) ?_
  refine kV hC hB _ lkC_ST rfl (c_ST_place σ π hπ x0 x1 RES hR) allw_ok mf_ST_place kw_384 kw_385 kw_383 ⟨rfl, rfl, Nat.le_of_ble_eq_true rfl, Nat.le_of_ble_eq_true rfl⟩ rfl rfl hl.1 (Nat.le_of_ble_eq_true rfl) d_Law_place_5 ⟨Nat.le_of_ble_eq_true rfl, Nat.le_of_ble_eq_true rfl⟩ (fun H locs w hw hB => ?_)
  obtain ⟨π, hπ, rfl⟩ := hw
  refine lv_i2l hx hb d_Law_place_8 rfl ?_
  refine as_l rfl hC hB 52 1 lkC_out rfl vin0 d_Law_place_9 setC_out (fun H locs hB => ?_)
  refine lv_goto (tgt := 17) hx hb d_Law_place_10 (by decide) ?_
  refine lv_iconst (v := 0) hx hb d_Law_place_17 (by decide) ?_
  exact ri hC hB ⟨π, hπ, rfl⟩ d_Law_place_18
set_option maxHeartbeats 400000 in
set_option maxRecDepth 100000 in
theorem ht_place (htl : l.stackTraces = false) (σ : SC) (π : PJ) (hπ : RJ π σ) (o : Nat) (f : Nat → Int64) (x0 : Int32) (x1 : Int32) (hR : m_ST_place σ x0 x1 = none) : HM l y_Law_place b_Law_place 5 [(0, 10, 13, 13)] { frames := 8, cells := 1, slots := 6, locals := 155 } D (tyL cI cL cQ) N0 [.ref (G 0 0), .int x0, .int x1, .ref o] (wsC G cI cL cQ σ π (oc o cL f :: rest)) (some (.int 1)) (pwC G cI cL cQ σ (oc o cL f :: rest)) 1 6 := by
  refine met_w (own := R_Law) (by decide) rfl nwl_ok ?_
  intro p e s m below meth c hC hSW htab hB
  have hx := hC.1
  have hb := hC.2.1
  have hl := lv_entry ([.ref (G 0 0), .int x0, .int x1, .ref o]) (n := 5) (Nat.le_of_ble_eq_true rfl)
  rw [lg_entry_eq]
  generalize (lg_sl ([.ref (G 0 0), .int x0, .int x1, .ref o]) ++ List.replicate (5 - (lg_sl ([.ref (G 0 0), .int x0, .int x1, .ref o])).length) Slot.unset).toArray = ls at hl ⊢
  have hl : lv_has ls 5 [(0, .ref (G 0 0)), (1, .int x0), (2, .int x1), (3, .ref o)] := hl
  have hC2 := cx_to hC (Nat.le_refl s.heap.size)
  have hB2 := bd_s hC hB
  refine lv_aload_n hx hb d_Law_place_0 rfl (lv_at hl 3 rfl) ?_
  refine lv_iconst (v := 0) hx hb d_Law_place_1 (by decide) ?_
  refine lv_aload_n hx hb d_Law_place_2 rfl (lv_at hl 0 rfl) ?_
  refine lv_iload_n hx hb d_Law_place_3 rfl (lv_at hl 1 rfl) ?_
  refine lv_iload_n hx hb d_Law_place_4 rfl (lv_at hl 2 rfl) ?_
  refine kx hC2 hSW hB2 _ lkC_ST rfl (x_ST_place htl σ π x0 x1 hR) allw_ok mf_ST_place kw_384 kw_385 kw_383 ⟨rfl, rfl, Nat.le_of_ble_eq_true rfl, Nat.le_of_ble_eq_true rfl⟩ rfl rfl hl.1 (Nat.le_of_ble_eq_true rfl) d_Law_place_5 ⟨Nat.le_of_ble_eq_true rfl, Nat.le_of_ble_eq_true rfl⟩ (fun q ce H locs hB h1 h2 h3 => ?_)
  refine cth hC2 htab ⟨by decide, by decide⟩ (by decide) kw_382 h1 h2 h3 ?_
  refine lv_astore (i := 4) hx hb d_Law_place_13 hl (by decide) rfl (fun ls hl => ?_)
  refine lv_iconst (v := 1) hx hb d_Law_place_15 (by decide) ?_
  exact ri hC (bd_w hB hC.2.2.2.2.2.2.2.2.1) ⟨π, hπ, rfl⟩ d_Law_place_16
set_option maxHeartbeats 400000 in
set_option maxRecDepth 100000 in
theorem h_remove (σ : SC) (π : PJ) (hπ : RJ π σ) (o : Nat) (f : Nat → Int64) (x0 : Int32) (RES : Bool × SC) (hR : m_ST_remove σ x0 = some RES) : HM l y_Law_remove b_Law_remove 4 [(0, 16, 19, 13)] { frames := 7, cells := 3, slots := 12, locals := 150 } D (tyL cI cL cQ) N0 [.ref (G 0 0), .int x0, .ref o] (wsC G cI cL cQ σ π (oc o cL f :: rest)) (some (.int 0)) (pwC G cI cL cQ RES.2 (oc o cL (vp_updL f 0 (lb RES.1)) :: rest)) 3 12 := by
  obtain ⟨RV, RS⟩ := RES
  dsimp only
  refine met_w (own := R_Law) (by decide) rfl nwl_ok ?_
  intro p e s m below meth c hC hSW htab hB
  have hx := hC.1
  have hb := hC.2.1
  have hl := lv_entry ([.ref (G 0 0), .int x0, .ref o]) (n := 4) (Nat.le_of_ble_eq_true rfl)
  rw [lg_entry_eq]
  generalize (lg_sl ([.ref (G 0 0), .int x0, .ref o]) ++ List.replicate (4 - (lg_sl ([.ref (G 0 0), .int x0, .ref o])).length) Slot.unset).toArray = ls at hl ⊢
  have hl : lv_has ls 4 [(0, .ref (G 0 0)), (1, .int x0), (2, .ref o)] := hl
  refine lv_aload_n hx hb d_Law_remove_0 rfl (lv_at hl 2 rfl) ?_
  refine lv_iconst (v := 0) hx hb d_Law_remove_1 (by decide) ?_
  refine lv_aload_n hx hb d_Law_remove_2 rfl (lv_at hl 0 rfl) ?_
  refine lv_iload_n hx hb d_Law_remove_3 rfl (lv_at hl 1 rfl) ?_
  refine kV hC hB _ lkC_ST rfl (c_ST_remove σ π hπ x0 (RV, RS) hR) allw_ok mf_ST_remove kw_508 kw_509 kw_507 ⟨rfl, rfl, Nat.le_of_ble_eq_true rfl, Nat.le_of_ble_eq_true rfl⟩ rfl rfl hl.1 (Nat.le_of_ble_eq_true rfl) d_Law_remove_4 ⟨Nat.le_of_ble_eq_true rfl, Nat.le_of_ble_eq_true rfl⟩ (fun H locs w hw hB => ?_)
  obtain ⟨π, hπ, rfl⟩ := hw
  rcases RV with _ | _
  · refine lv_if_eq (tgt := 14) hx hb d_Law_remove_7 (by decide) (fun c_1 => ?_) (fun c_1 => absurd (show bi false = 0 from rfl) c_1)
    refine lv_lconst (v := 0) hx hb d_Law_remove_14 (by decide) ?_
    refine as_l rfl hC hB 52 1 lkC_out rfl vin0 d_Law_remove_15 setC_out (fun H locs hB => ?_)
    refine lv_goto (tgt := 22) hx hb d_Law_remove_16 (by decide) ?_
    refine lv_iconst (v := 0) hx hb d_Law_remove_22 (by decide) ?_
    exact ri hC hB ⟨π, hπ, rfl⟩ d_Law_remove_23
  · refine lv_if_eq (tgt := 14) hx hb d_Law_remove_7 (by decide) (fun c_1 => absurd c_1 (show ¬ bi true = 0 by decide)) (fun c_1 => ?_)
    refine lv_lconst (v := 1) hx hb d_Law_remove_10 (by decide) ?_
    refine lv_goto (tgt := 15) hx hb d_Law_remove_11 (by decide) ?_
    refine as_l rfl hC hB 52 1 lkC_out rfl vin0 d_Law_remove_15 setC_out (fun H locs hB => ?_)
    refine lv_goto (tgt := 22) hx hb d_Law_remove_16 (by decide) ?_
    refine lv_iconst (v := 0) hx hb d_Law_remove_22 (by decide) ?_
    exact ri hC hB ⟨π, hπ, rfl⟩ d_Law_remove_23
set_option maxHeartbeats 400000 in
set_option maxRecDepth 100000 in
theorem ht_remove (htl : l.stackTraces = false) (σ : SC) (π : PJ) (hπ : RJ π σ) (o : Nat) (f : Nat → Int64) (x0 : Int32) (hR : m_ST_remove σ x0 = none) : HM l y_Law_remove b_Law_remove 4 [(0, 16, 19, 13)] { frames := 8, cells := 1, slots := 6, locals := 150 } D (tyL cI cL cQ) N0 [.ref (G 0 0), .int x0, .ref o] (wsC G cI cL cQ σ π (oc o cL f :: rest)) (some (.int 1)) (pwC G cI cL cQ σ (oc o cL f :: rest)) 1 6 := by
  refine met_w (own := R_Law) (by decide) rfl nwl_ok ?_
  intro p e s m below meth c hC hSW htab hB
  have hx := hC.1
  have hb := hC.2.1
  have hl := lv_entry ([.ref (G 0 0), .int x0, .ref o]) (n := 4) (Nat.le_of_ble_eq_true rfl)
  rw [lg_entry_eq]
  generalize (lg_sl ([.ref (G 0 0), .int x0, .ref o]) ++ List.replicate (4 - (lg_sl ([.ref (G 0 0), .int x0, .ref o])).length) Slot.unset).toArray = ls at hl ⊢
  have hl : lv_has ls 4 [(0, .ref (G 0 0)), (1, .int x0), (2, .ref o)] := hl
  have hC2 := cx_to hC (Nat.le_refl s.heap.size)
  have hB2 := bd_s hC hB
  refine lv_aload_n hx hb d_Law_remove_0 rfl (lv_at hl 2 rfl) ?_
  refine lv_iconst (v := 0) hx hb d_Law_remove_1 (by decide) ?_
  refine lv_aload_n hx hb d_Law_remove_2 rfl (lv_at hl 0 rfl) ?_
  refine lv_iload_n hx hb d_Law_remove_3 rfl (lv_at hl 1 rfl) ?_
  refine kx hC2 hSW hB2 _ lkC_ST rfl (x_ST_remove htl σ π x0 hR) allw_ok mf_ST_remove kw_508 kw_509 kw_507 ⟨rfl, rfl, Nat.le_of_ble_eq_true rfl, Nat.le_of_ble_eq_true rfl⟩ rfl rfl hl.1 (Nat.le_of_ble_eq_true rfl) d_Law_remove_4 ⟨Nat.le_of_ble_eq_true rfl, Nat.le_of_ble_eq_true rfl⟩ (fun q ce H locs hB h1 h2 h3 => ?_)
  refine cth hC2 htab ⟨by decide, by decide⟩ (by decide) kw_382 h1 h2 h3 ?_
  refine lv_astore_n (i := 3) hx hb d_Law_remove_19 rfl hl (by decide) rfl (fun ls hl => ?_)
  refine lv_iconst (v := 1) hx hb d_Law_remove_20 (by decide) ?_
  exact ri hC (bd_w hB hC.2.2.2.2.2.2.2.2.1) ⟨π, hπ, rfl⟩ d_Law_remove_21
set_option maxHeartbeats 400000 in
set_option maxRecDepth 100000 in
theorem h_move (σ : SC) (π : PJ) (hπ : RJ π σ) (o : Nat) (f : Nat → Int64) (x0 : Int32) (x1 : Int32) (RES : Bool × SC) (hR : m_ST_move σ x0 x1 = some RES) : HM l y_Law_move b_Law_move 5 [(0, 17, 20, 13)] { frames := 7, cells := 37, slots := 148, locals := 158 } D (tyL cI cL cQ) N0 [.ref (G 0 0), .int x0, .int x1, .ref o] (wsC G cI cL cQ σ π (oc o cL f :: rest)) (some (.int 0)) (pwC G cI cL cQ RES.2 (oc o cL (vp_updL f 0 (lb RES.1)) :: rest)) 37 148 := by
  obtain ⟨RV, RS⟩ := RES
  dsimp only
  refine met_w (own := R_Law) (by decide) rfl nwl_ok ?_
  intro p e s m below meth c hC hSW htab hB
  have hx := hC.1
  have hb := hC.2.1
  have hl := lv_entry ([.ref (G 0 0), .int x0, .int x1, .ref o]) (n := 5) (Nat.le_of_ble_eq_true rfl)
  rw [lg_entry_eq]
  generalize (lg_sl ([.ref (G 0 0), .int x0, .int x1, .ref o]) ++ List.replicate (5 - (lg_sl ([.ref (G 0 0), .int x0, .int x1, .ref o])).length) Slot.unset).toArray = ls at hl ⊢
  have hl : lv_has ls 5 [(0, .ref (G 0 0)), (1, .int x0), (2, .int x1), (3, .ref o)] := hl
  refine lv_aload_n hx hb d_Law_move_0 rfl (lv_at hl 3 rfl) ?_
  refine lv_iconst (v := 0) hx hb d_Law_move_1 (by decide) ?_
  refine lv_aload_n hx hb d_Law_move_2 rfl (lv_at hl 0 rfl) ?_
  refine lv_iload_n hx hb d_Law_move_3 rfl (lv_at hl 1 rfl) ?_
  refine lv_iload_n hx hb d_Law_move_4 rfl (lv_at hl 2 rfl) ?_
  refine kV hC hB _ lkC_ST rfl (c_ST_move σ π hπ x0 x1 (RV, RS) hR) allw_ok mf_ST_move kw_530 kw_531 kw_529 ⟨rfl, rfl, Nat.le_of_ble_eq_true rfl, Nat.le_of_ble_eq_true rfl⟩ rfl rfl hl.1 (Nat.le_of_ble_eq_true rfl) d_Law_move_5 ⟨Nat.le_of_ble_eq_true rfl, Nat.le_of_ble_eq_true rfl⟩ (fun H locs w hw hB => ?_)
  obtain ⟨π, hπ, rfl⟩ := hw
  rcases RV with _ | _
  · refine lv_if_eq (tgt := 15) hx hb d_Law_move_8 (by decide) (fun c_1 => ?_) (fun c_1 => absurd (show bi false = 0 from rfl) c_1)
    refine lv_lconst (v := 0) hx hb d_Law_move_15 (by decide) ?_
    refine as_l rfl hC hB 52 1 lkC_out rfl vin0 d_Law_move_16 setC_out (fun H locs hB => ?_)
    refine lv_goto (tgt := 24) hx hb d_Law_move_17 (by decide) ?_
    refine lv_iconst (v := 0) hx hb d_Law_move_24 (by decide) ?_
    exact ri hC hB ⟨π, hπ, rfl⟩ d_Law_move_25
  · refine lv_if_eq (tgt := 15) hx hb d_Law_move_8 (by decide) (fun c_1 => absurd c_1 (show ¬ bi true = 0 by decide)) (fun c_1 => ?_)
    refine lv_lconst (v := 1) hx hb d_Law_move_11 (by decide) ?_
    refine lv_goto (tgt := 16) hx hb d_Law_move_12 (by decide) ?_
    refine as_l rfl hC hB 52 1 lkC_out rfl vin0 d_Law_move_16 setC_out (fun H locs hB => ?_)
    refine lv_goto (tgt := 24) hx hb d_Law_move_17 (by decide) ?_
    refine lv_iconst (v := 0) hx hb d_Law_move_24 (by decide) ?_
    exact ri hC hB ⟨π, hπ, rfl⟩ d_Law_move_25
set_option maxHeartbeats 400000 in
set_option maxRecDepth 100000 in
theorem ht_move (htl : l.stackTraces = false) (σ : SC) (π : PJ) (hπ : RJ π σ) (o : Nat) (f : Nat → Int64) (x0 : Int32) (x1 : Int32) (hR : m_ST_move σ x0 x1 = none) : HM l y_Law_move b_Law_move 5 [(0, 17, 20, 13)] { frames := 8, cells := 1, slots := 6, locals := 158 } D (tyL cI cL cQ) N0 [.ref (G 0 0), .int x0, .int x1, .ref o] (wsC G cI cL cQ σ π (oc o cL f :: rest)) (some (.int 1)) (pwC G cI cL cQ σ (oc o cL f :: rest)) 1 6 := by
  refine met_w (own := R_Law) (by decide) rfl nwl_ok ?_
  intro p e s m below meth c hC hSW htab hB
  have hx := hC.1
  have hb := hC.2.1
  have hl := lv_entry ([.ref (G 0 0), .int x0, .int x1, .ref o]) (n := 5) (Nat.le_of_ble_eq_true rfl)
  rw [lg_entry_eq]
  generalize (lg_sl ([.ref (G 0 0), .int x0, .int x1, .ref o]) ++ List.replicate (5 - (lg_sl ([.ref (G 0 0), .int x0, .int x1, .ref o])).length) Slot.unset).toArray = ls at hl ⊢
  have hl : lv_has ls 5 [(0, .ref (G 0 0)), (1, .int x0), (2, .int x1), (3, .ref o)] := hl
  have hC2 := cx_to hC (Nat.le_refl s.heap.size)
  have hB2 := bd_s hC hB
  refine lv_aload_n hx hb d_Law_move_0 rfl (lv_at hl 3 rfl) ?_
  refine lv_iconst (v := 0) hx hb d_Law_move_1 (by decide) ?_
  refine lv_aload_n hx hb d_Law_move_2 rfl (lv_at hl 0 rfl) ?_
  refine lv_iload_n hx hb d_Law_move_3 rfl (lv_at hl 1 rfl) ?_
  refine lv_iload_n hx hb d_Law_move_4 rfl (lv_at hl 2 rfl) ?_
  refine kx hC2 hSW hB2 _ lkC_ST rfl (x_ST_move htl σ π x0 x1 hR) allw_ok mf_ST_move kw_530 kw_531 kw_529 ⟨rfl, rfl, Nat.le_of_ble_eq_true rfl, Nat.le_of_ble_eq_true rfl⟩ rfl rfl hl.1 (Nat.le_of_ble_eq_true rfl) d_Law_move_5 ⟨Nat.le_of_ble_eq_true rfl, Nat.le_of_ble_eq_true rfl⟩ (fun q ce H locs hB h1 h2 h3 => ?_)
  refine cth hC2 htab ⟨by decide, by decide⟩ (by decide) kw_382 h1 h2 h3 ?_
  refine lv_astore (i := 4) hx hb d_Law_move_20 hl (by decide) rfl (fun ls hl => ?_)
  refine lv_iconst (v := 1) hx hb d_Law_move_22 (by decide) ?_
  exact ri hC (bd_w hB hC.2.2.2.2.2.2.2.2.1) ⟨π, hπ, rfl⟩ d_Law_move_23
set_option maxHeartbeats 400000 in
set_option maxRecDepth 100000 in
theorem h_port (σ : SC) (π : PJ) (hπ : RJ π σ) (o : Nat) (f : Nat → Int64) (x0 : Int32) (x1 : Int32) (RES : Bool × SC) (hR : m_ST_port σ x0 x1 = some RES) : HM l y_Law_port b_Law_port 5 [(0, 17, 20, 13)] { frames := 6, cells := 1, slots := 4, locals := 131 } D (tyL cI cL cQ) N0 [.ref (G 0 0), .int x0, .int x1, .ref o] (wsC G cI cL cQ σ π (oc o cL f :: rest)) (some (.int 0)) (pwC G cI cL cQ RES.2 (oc o cL (vp_updL f 0 (lb RES.1)) :: rest)) 1 4 := by
  obtain ⟨RV, RS⟩ := RES
  dsimp only
  refine met_w (own := R_Law) (by decide) rfl nwl_ok ?_
  intro p e s m below meth c hC hSW htab hB
  have hx := hC.1
  have hb := hC.2.1
  have hl := lv_entry ([.ref (G 0 0), .int x0, .int x1, .ref o]) (n := 5) (Nat.le_of_ble_eq_true rfl)
  rw [lg_entry_eq]
  generalize (lg_sl ([.ref (G 0 0), .int x0, .int x1, .ref o]) ++ List.replicate (5 - (lg_sl ([.ref (G 0 0), .int x0, .int x1, .ref o])).length) Slot.unset).toArray = ls at hl ⊢
  have hl : lv_has ls 5 [(0, .ref (G 0 0)), (1, .int x0), (2, .int x1), (3, .ref o)] := hl
  refine lv_aload_n hx hb d_Law_port_0 rfl (lv_at hl 3 rfl) ?_
  refine lv_iconst (v := 0) hx hb d_Law_port_1 (by decide) ?_
  refine lv_aload_n hx hb d_Law_port_2 rfl (lv_at hl 0 rfl) ?_
  refine lv_iload_n hx hb d_Law_port_3 rfl (lv_at hl 1 rfl) ?_
  refine lv_iload_n hx hb d_Law_port_4 rfl (lv_at hl 2 rfl) ?_
  refine kV hC hB _ lkC_ST rfl (c_ST_port σ π hπ x0 x1 (RV, RS) hR) allw_ok mf_ST_port kw_555 kw_556 kw_554 ⟨rfl, rfl, Nat.le_of_ble_eq_true rfl, Nat.le_of_ble_eq_true rfl⟩ rfl rfl hl.1 (Nat.le_of_ble_eq_true rfl) d_Law_port_5 ⟨Nat.le_of_ble_eq_true rfl, Nat.le_of_ble_eq_true rfl⟩ (fun H locs w hw hB => ?_)
  obtain ⟨π, hπ, rfl⟩ := hw
  rcases RV with _ | _
  · refine lv_if_eq (tgt := 15) hx hb d_Law_port_8 (by decide) (fun c_1 => ?_) (fun c_1 => absurd (show bi false = 0 from rfl) c_1)
    refine lv_lconst (v := 0) hx hb d_Law_port_15 (by decide) ?_
    refine as_l rfl hC hB 52 1 lkC_out rfl vin0 d_Law_port_16 setC_out (fun H locs hB => ?_)
    refine lv_goto (tgt := 24) hx hb d_Law_port_17 (by decide) ?_
    refine lv_iconst (v := 0) hx hb d_Law_port_24 (by decide) ?_
    exact ri hC hB ⟨π, hπ, rfl⟩ d_Law_port_25
  · refine lv_if_eq (tgt := 15) hx hb d_Law_port_8 (by decide) (fun c_1 => absurd c_1 (show ¬ bi true = 0 by decide)) (fun c_1 => ?_)
    refine lv_lconst (v := 1) hx hb d_Law_port_11 (by decide) ?_
    refine lv_goto (tgt := 16) hx hb d_Law_port_12 (by decide) ?_
    refine as_l rfl hC hB 52 1 lkC_out rfl vin0 d_Law_port_16 setC_out (fun H locs hB => ?_)
    refine lv_goto (tgt := 24) hx hb d_Law_port_17 (by decide) ?_
    refine lv_iconst (v := 0) hx hb d_Law_port_24 (by decide) ?_
    exact ri hC hB ⟨π, hπ, rfl⟩ d_Law_port_25
set_option maxHeartbeats 400000 in
set_option maxRecDepth 100000 in
theorem ht_port (htl : l.stackTraces = false) (σ : SC) (π : PJ) (hπ : RJ π σ) (o : Nat) (f : Nat → Int64) (x0 : Int32) (x1 : Int32) (hR : m_ST_port σ x0 x1 = none) : HM l y_Law_port b_Law_port 5 [(0, 17, 20, 13)] { frames := 8, cells := 1, slots := 6, locals := 133 } D (tyL cI cL cQ) N0 [.ref (G 0 0), .int x0, .int x1, .ref o] (wsC G cI cL cQ σ π (oc o cL f :: rest)) (some (.int 1)) (pwC G cI cL cQ σ (oc o cL f :: rest)) 1 6 := by
  refine met_w (own := R_Law) (by decide) rfl nwl_ok ?_
  intro p e s m below meth c hC hSW htab hB
  have hx := hC.1
  have hb := hC.2.1
  have hl := lv_entry ([.ref (G 0 0), .int x0, .int x1, .ref o]) (n := 5) (Nat.le_of_ble_eq_true rfl)
  rw [lg_entry_eq]
  generalize (lg_sl ([.ref (G 0 0), .int x0, .int x1, .ref o]) ++ List.replicate (5 - (lg_sl ([.ref (G 0 0), .int x0, .int x1, .ref o])).length) Slot.unset).toArray = ls at hl ⊢
  have hl : lv_has ls 5 [(0, .ref (G 0 0)), (1, .int x0), (2, .int x1), (3, .ref o)] := hl
  have hC2 := cx_to hC (Nat.le_refl s.heap.size)
  have hB2 := bd_s hC hB
  refine lv_aload_n hx hb d_Law_port_0 rfl (lv_at hl 3 rfl) ?_
  refine lv_iconst (v := 0) hx hb d_Law_port_1 (by decide) ?_
  refine lv_aload_n hx hb d_Law_port_2 rfl (lv_at hl 0 rfl) ?_
  refine lv_iload_n hx hb d_Law_port_3 rfl (lv_at hl 1 rfl) ?_
  refine lv_iload_n hx hb d_Law_port_4 rfl (lv_at hl 2 rfl) ?_
  refine kx hC2 hSW hB2 _ lkC_ST rfl (x_ST_port htl σ π x0 x1 hR) allw_ok mf_ST_port kw_555 kw_556 kw_554 ⟨rfl, rfl, Nat.le_of_ble_eq_true rfl, Nat.le_of_ble_eq_true rfl⟩ rfl rfl hl.1 (Nat.le_of_ble_eq_true rfl) d_Law_port_5 ⟨Nat.le_of_ble_eq_true rfl, Nat.le_of_ble_eq_true rfl⟩ (fun q ce H locs hB h1 h2 h3 => ?_)
  refine cth hC2 htab ⟨by decide, by decide⟩ (by decide) kw_382 h1 h2 h3 ?_
  refine lv_astore (i := 4) hx hb d_Law_port_20 hl (by decide) rfl (fun ls hl => ?_)
  refine lv_iconst (v := 1) hx hb d_Law_port_22 (by decide) ?_
  exact ri hC (bd_w hB hC.2.2.2.2.2.2.2.2.1) ⟨π, hπ, rfl⟩ d_Law_port_23
set_option maxHeartbeats 400000 in
set_option maxRecDepth 100000 in
theorem h_join (σ : SC) (π : PJ) (hπ : RJ π σ) (o : Nat) (f : Nat → Int64) (x0 : Int32) (x1 : Int32) (x2 : Int32) (RES : Bool × SC) (hR : m_ST_join σ x0 x1 x2 = some RES) : HM l y_Law_join b_Law_join 6 [(0, 19, 22, 13)] { frames := 6, cells := 1, slots := 4, locals := 133 } D (tyL cI cL cQ) N0 [.ref (G 0 0), .int x0, .int x1, .int x2, .ref o] (wsC G cI cL cQ σ π (oc o cL f :: rest)) (some (.int 0)) (pwC G cI cL cQ RES.2 (oc o cL (vp_updL f 0 (lb RES.1)) :: rest)) 1 4 := by
  obtain ⟨RV, RS⟩ := RES
  dsimp only
  refine met_w (own := R_Law) (by decide) rfl nwl_ok ?_
  intro p e s m below meth c hC hSW htab hB
  have hx := hC.1
  have hb := hC.2.1
  have hl := lv_entry ([.ref (G 0 0), .int x0, .int x1, .int x2, .ref o]) (n := 6) (Nat.le_of_ble_eq_true rfl)
  rw [lg_entry_eq]
  generalize (lg_sl ([.ref (G 0 0), .int x0, .int x1, .int x2, .ref o]) ++ List.replicate (6 - (lg_sl ([.ref (G 0 0), .int x0, .int x1, .int x2, .ref o])).length) Slot.unset).toArray = ls at hl ⊢
  have hl : lv_has ls 6 [(0, .ref (G 0 0)), (1, .int x0), (2, .int x1), (3, .int x2), (4, .ref o)] := hl
  refine lv_aload hx hb d_Law_join_0 (lv_at hl 4 rfl) ?_
  refine lv_iconst (v := 0) hx hb d_Law_join_2 (by decide) ?_
  refine lv_aload_n hx hb d_Law_join_3 rfl (lv_at hl 0 rfl) ?_
  refine lv_iload_n hx hb d_Law_join_4 rfl (lv_at hl 1 rfl) ?_
  refine lv_iload_n hx hb d_Law_join_5 rfl (lv_at hl 2 rfl) ?_
  refine lv_iload_n hx hb d_Law_join_6 rfl (lv_at hl 3 rfl) ?_
  refine kV hC hB _ lkC_ST rfl (c_ST_join σ π hπ x0 x1 x2 (RV, RS) hR) allw_ok mf_ST_join kw_572 kw_573 kw_571 ⟨rfl, rfl, Nat.le_of_ble_eq_true rfl, Nat.le_of_ble_eq_true rfl⟩ rfl rfl hl.1 (Nat.le_of_ble_eq_true rfl) d_Law_join_7 ⟨Nat.le_of_ble_eq_true rfl, Nat.le_of_ble_eq_true rfl⟩ (fun H locs w hw hB => ?_)
  obtain ⟨π, hπ, rfl⟩ := hw
  rcases RV with _ | _
  · refine lv_if_eq (tgt := 17) hx hb d_Law_join_10 (by decide) (fun c_1 => ?_) (fun c_1 => absurd (show bi false = 0 from rfl) c_1)
    refine lv_lconst (v := 0) hx hb d_Law_join_17 (by decide) ?_
    refine as_l rfl hC hB 52 1 lkC_out rfl vin0 d_Law_join_18 setC_out (fun H locs hB => ?_)
    refine lv_goto (tgt := 26) hx hb d_Law_join_19 (by decide) ?_
    refine lv_iconst (v := 0) hx hb d_Law_join_26 (by decide) ?_
    exact ri hC hB ⟨π, hπ, rfl⟩ d_Law_join_27
  · refine lv_if_eq (tgt := 17) hx hb d_Law_join_10 (by decide) (fun c_1 => absurd c_1 (show ¬ bi true = 0 by decide)) (fun c_1 => ?_)
    refine lv_lconst (v := 1) hx hb d_Law_join_13 (by decide) ?_
    refine lv_goto (tgt := 18) hx hb d_Law_join_14 (by decide) ?_
    refine as_l rfl hC hB 52 1 lkC_out rfl vin0 d_Law_join_18 setC_out (fun H locs hB => ?_)
    refine lv_goto (tgt := 26) hx hb d_Law_join_19 (by decide) ?_
    refine lv_iconst (v := 0) hx hb d_Law_join_26 (by decide) ?_
    exact ri hC hB ⟨π, hπ, rfl⟩ d_Law_join_27
set_option maxHeartbeats 400000 in
set_option maxRecDepth 100000 in
theorem ht_join (htl : l.stackTraces = false) (σ : SC) (π : PJ) (hπ : RJ π σ) (o : Nat) (f : Nat → Int64) (x0 : Int32) (x1 : Int32) (x2 : Int32) (hR : m_ST_join σ x0 x1 x2 = none) : HM l y_Law_join b_Law_join 6 [(0, 19, 22, 13)] { frames := 8, cells := 1, slots := 6, locals := 134 } D (tyL cI cL cQ) N0 [.ref (G 0 0), .int x0, .int x1, .int x2, .ref o] (wsC G cI cL cQ σ π (oc o cL f :: rest)) (some (.int 1)) (pwC G cI cL cQ σ (oc o cL f :: rest)) 1 6 := by
  refine met_w (own := R_Law) (by decide) rfl nwl_ok ?_
  intro p e s m below meth c hC hSW htab hB
  have hx := hC.1
  have hb := hC.2.1
  have hl := lv_entry ([.ref (G 0 0), .int x0, .int x1, .int x2, .ref o]) (n := 6) (Nat.le_of_ble_eq_true rfl)
  rw [lg_entry_eq]
  generalize (lg_sl ([.ref (G 0 0), .int x0, .int x1, .int x2, .ref o]) ++ List.replicate (6 - (lg_sl ([.ref (G 0 0), .int x0, .int x1, .int x2, .ref o])).length) Slot.unset).toArray = ls at hl ⊢
  have hl : lv_has ls 6 [(0, .ref (G 0 0)), (1, .int x0), (2, .int x1), (3, .int x2), (4, .ref o)] := hl
  have hC2 := cx_to hC (Nat.le_refl s.heap.size)
  have hB2 := bd_s hC hB
  refine lv_aload hx hb d_Law_join_0 (lv_at hl 4 rfl) ?_
  refine lv_iconst (v := 0) hx hb d_Law_join_2 (by decide) ?_
  refine lv_aload_n hx hb d_Law_join_3 rfl (lv_at hl 0 rfl) ?_
  refine lv_iload_n hx hb d_Law_join_4 rfl (lv_at hl 1 rfl) ?_
  refine lv_iload_n hx hb d_Law_join_5 rfl (lv_at hl 2 rfl) ?_
  refine lv_iload_n hx hb d_Law_join_6 rfl (lv_at hl 3 rfl) ?_
  refine kx hC2 hSW hB2 _ lkC_ST rfl (x_ST_join htl σ π x0 x1 x2 hR) allw_ok mf_ST_join kw_572 kw_573 kw_571 ⟨rfl, rfl, Nat.le_of_ble_eq_true rfl, Nat.le_of_ble_eq_true rfl⟩ rfl rfl hl.1 (Nat.le_of_ble_eq_true rfl) d_Law_join_7 ⟨Nat.le_of_ble_eq_true rfl, Nat.le_of_ble_eq_true rfl⟩ (fun q ce H locs hB h1 h2 h3 => ?_)
  refine cth hC2 htab ⟨by decide, by decide⟩ (by decide) kw_382 h1 h2 h3 ?_
  refine lv_astore (i := 5) hx hb d_Law_join_22 hl (by decide) rfl (fun ls hl => ?_)
  refine lv_iconst (v := 1) hx hb d_Law_join_24 (by decide) ?_
  exact ri hC (bd_w hB hC.2.2.2.2.2.2.2.2.1) ⟨π, hπ, rfl⟩ d_Law_join_25
set_option maxHeartbeats 400000 in
set_option maxRecDepth 100000 in
theorem h_joined (σ : SC) (π : PJ) (hπ : RJ π σ) (o : Nat) (f : Nat → Int64) (x0 : Int32) (x1 : Int32) (RES : Int32) (hR : m_ST_joined σ x0 x1 = some RES) : HM l y_Law_joined b_Law_joined 5 [(0, 10, 13, 13)] { frames := 5, cells := 0, slots := 0, locals := 106 } D (tyL cI cL cQ) N0 [.ref (G 0 0), .int x0, .int x1, .ref o] (wsC G cI cL cQ σ π (oc o cL f :: rest)) (some (.int 0)) (pwC G cI cL cQ σ (oc o cL (vp_updL f 0 RES.toInt64) :: rest)) 0 0 := by
  refine met_w (own := R_Law) (by decide) rfl nwl_ok ?_
  intro p e s m below meth c hC hSW htab hB
  have hx := hC.1
  have hb := hC.2.1
  have hl := lv_entry ([.ref (G 0 0), .int x0, .int x1, .ref o]) (n := 5) (Nat.le_of_ble_eq_true rfl)
  rw [lg_entry_eq]
  generalize (lg_sl ([.ref (G 0 0), .int x0, .int x1, .ref o]) ++ List.replicate (5 - (lg_sl ([.ref (G 0 0), .int x0, .int x1, .ref o])).length) Slot.unset).toArray = ls at hl ⊢
  have hl : lv_has ls 5 [(0, .ref (G 0 0)), (1, .int x0), (2, .int x1), (3, .ref o)] := hl
  refine lv_aload_n hx hb d_Law_joined_0 rfl (lv_at hl 3 rfl) ?_
  refine lv_iconst (v := 0) hx hb d_Law_joined_1 (by decide) ?_
  refine lv_aload_n hx hb d_Law_joined_2 rfl (lv_at hl 0 rfl) ?_
  refine lv_iload_n hx hb d_Law_joined_3 rfl (lv_at hl 1 rfl) ?_
  refine lv_iload_n hx hb d_Law_joined_4 rfl (lv_at hl 2 rfl) ?_
  refine kV hC hB _ lkC_ST rfl (c_ST_joined σ π x0 x1 RES hR) allw_ok mf_ST_joined kw_582 kw_583 kw_581 ⟨rfl, rfl, Nat.le_of_ble_eq_true rfl, Nat.le_of_ble_eq_true rfl⟩ rfl rfl hl.1 (Nat.le_of_ble_eq_true rfl) d_Law_joined_5 ⟨Nat.le_of_ble_eq_true rfl, Nat.le_of_ble_eq_true rfl⟩ (fun H locs w hw hB => ?_)
  subst hw
  refine lv_i2l hx hb d_Law_joined_8 rfl ?_
  refine as_l rfl hC hB 52 1 lkC_out rfl vin0 d_Law_joined_9 setC_out (fun H locs hB => ?_)
  refine lv_goto (tgt := 17) hx hb d_Law_joined_10 (by decide) ?_
  refine lv_iconst (v := 0) hx hb d_Law_joined_17 (by decide) ?_
  exact ri hC hB ⟨π, hπ, rfl⟩ d_Law_joined_18
set_option maxHeartbeats 400000 in
set_option maxRecDepth 100000 in
theorem ht_joined (htl : l.stackTraces = false) (σ : SC) (π : PJ) (hπ : RJ π σ) (o : Nat) (f : Nat → Int64) (x0 : Int32) (x1 : Int32) (hR : m_ST_joined σ x0 x1 = none) : HM l y_Law_joined b_Law_joined 5 [(0, 10, 13, 13)] { frames := 8, cells := 1, slots := 6, locals := 133 } D (tyL cI cL cQ) N0 [.ref (G 0 0), .int x0, .int x1, .ref o] (wsC G cI cL cQ σ π (oc o cL f :: rest)) (some (.int 1)) (pwC G cI cL cQ σ (oc o cL f :: rest)) 1 6 := by
  refine met_w (own := R_Law) (by decide) rfl nwl_ok ?_
  intro p e s m below meth c hC hSW htab hB
  have hx := hC.1
  have hb := hC.2.1
  have hl := lv_entry ([.ref (G 0 0), .int x0, .int x1, .ref o]) (n := 5) (Nat.le_of_ble_eq_true rfl)
  rw [lg_entry_eq]
  generalize (lg_sl ([.ref (G 0 0), .int x0, .int x1, .ref o]) ++ List.replicate (5 - (lg_sl ([.ref (G 0 0), .int x0, .int x1, .ref o])).length) Slot.unset).toArray = ls at hl ⊢
  have hl : lv_has ls 5 [(0, .ref (G 0 0)), (1, .int x0), (2, .int x1), (3, .ref o)] := hl
  have hC2 := cx_to hC (Nat.le_refl s.heap.size)
  have hB2 := bd_s hC hB
  refine lv_aload_n hx hb d_Law_joined_0 rfl (lv_at hl 3 rfl) ?_
  refine lv_iconst (v := 0) hx hb d_Law_joined_1 (by decide) ?_
  refine lv_aload_n hx hb d_Law_joined_2 rfl (lv_at hl 0 rfl) ?_
  refine lv_iload_n hx hb d_Law_joined_3 rfl (lv_at hl 1 rfl) ?_
  refine lv_iload_n hx hb d_Law_joined_4 rfl (lv_at hl 2 rfl) ?_
  refine kx hC2 hSW hB2 _ lkC_ST rfl (x_ST_joined htl σ π x0 x1 hR) allw_ok mf_ST_joined kw_582 kw_583 kw_581 ⟨rfl, rfl, Nat.le_of_ble_eq_true rfl, Nat.le_of_ble_eq_true rfl⟩ rfl rfl hl.1 (Nat.le_of_ble_eq_true rfl) d_Law_joined_5 ⟨Nat.le_of_ble_eq_true rfl, Nat.le_of_ble_eq_true rfl⟩ (fun q ce H locs hB h1 h2 h3 => ?_)
  refine cth hC2 htab ⟨by decide, by decide⟩ (by decide) kw_382 h1 h2 h3 ?_
  refine lv_astore (i := 4) hx hb d_Law_joined_13 hl (by decide) rfl (fun ls hl => ?_)
  refine lv_iconst (v := 1) hx hb d_Law_joined_15 (by decide) ?_
  exact ri hC (bd_w hB hC.2.2.2.2.2.2.2.2.1) ⟨π, hπ, rfl⟩ d_Law_joined_16
set_option maxHeartbeats 400000 in
set_option maxRecDepth 100000 in
theorem h_part (σ : SC) (π : PJ) (hπ : RJ π σ) (o : Nat) (f : Nat → Int64) (x0 : Int32) (x1 : Int32) (RES : Int32 × SC) (hR : m_ST_part σ x0 x1 = some RES) : HM l y_Law_part b_Law_part 5 [(0, 10, 13, 36)] { frames := 6, cells := 3, slots := 12, locals := 133 } D (tyL cI cL cQ) N0 [.ref (G 0 0), .int x0, .int x1, .ref o] (wsC G cI cL cQ σ π (oc o cL f :: rest)) (some (.int 0)) (pwC G cI cL cQ RES.2 (oc o cL (vp_updL f 0 RES.1.toInt64) :: rest)) 3 12 := by
  refine met_w (own := R_Law) (by decide) rfl nwl_ok ?_
  intro p e s m below meth c hC hSW htab hB
  have hx := hC.1
  have hb := hC.2.1
  have hl := lv_entry ([.ref (G 0 0), .int x0, .int x1, .ref o]) (n := 5) (Nat.le_of_ble_eq_true rfl)
  rw [lg_entry_eq]
  generalize (lg_sl ([.ref (G 0 0), .int x0, .int x1, .ref o]) ++ List.replicate (5 - (lg_sl ([.ref (G 0 0), .int x0, .int x1, .ref o])).length) Slot.unset).toArray = ls at hl ⊢
  have hl : lv_has ls 5 [(0, .ref (G 0 0)), (1, .int x0), (2, .int x1), (3, .ref o)] := hl
  refine lv_aload_n hx hb d_Law_part_0 rfl (lv_at hl 3 rfl) ?_
  refine lv_iconst (v := 0) hx hb d_Law_part_1 (by decide) ?_
  refine lv_aload_n hx hb d_Law_part_2 rfl (lv_at hl 0 rfl) ?_
  refine lv_iload_n hx hb d_Law_part_3 rfl (lv_at hl 1 rfl) ?_
  refine lv_iload_n hx hb d_Law_part_4 rfl (lv_at hl 2 rfl) ?_
  refine kV hC hB _ lkC_ST rfl (c_ST_part σ π hπ x0 x1 RES hR) allw_ok mf_ST_part kw_590 kw_591 kw_589 ⟨rfl, rfl, Nat.le_of_ble_eq_true rfl, Nat.le_of_ble_eq_true rfl⟩ rfl rfl hl.1 (Nat.le_of_ble_eq_true rfl) d_Law_part_5 ⟨Nat.le_of_ble_eq_true rfl, Nat.le_of_ble_eq_true rfl⟩ (fun H locs w hw hB => ?_)
  obtain ⟨π, hπ, rfl⟩ := hw
  refine lv_i2l hx hb d_Law_part_8 rfl ?_
  refine as_l rfl hC hB 52 1 lkC_out rfl vin0 d_Law_part_9 setC_out (fun H locs hB => ?_)
  refine lv_goto (tgt := 17) hx hb d_Law_part_10 (by decide) ?_
  refine lv_iconst (v := 0) hx hb d_Law_part_17 (by decide) ?_
  exact ri hC hB ⟨π, hπ, rfl⟩ d_Law_part_18
set_option maxHeartbeats 400000 in
set_option maxRecDepth 100000 in
theorem ht_part (htl : l.stackTraces = false) (σ : SC) (π : PJ) (hπ : RJ π σ) (o : Nat) (f : Nat → Int64) (x0 : Int32) (x1 : Int32) (hR : m_ST_part σ x0 x1 = none) : HM l y_Law_part b_Law_part 5 [(0, 10, 13, 36)] { frames := 7, cells := 1, slots := 6, locals := 133 } D (tyL cI cL cQ) N0 [.ref (G 0 0), .int x0, .int x1, .ref o] (wsC G cI cL cQ σ π (oc o cL f :: rest)) (some (.int 1)) (pwC G cI cL cQ σ (oc o cL f :: rest)) 1 6 := by
  refine met_w (own := R_Law) (by decide) rfl nwl_ok ?_
  intro p e s m below meth c hC hSW htab hB
  have hx := hC.1
  have hb := hC.2.1
  have hl := lv_entry ([.ref (G 0 0), .int x0, .int x1, .ref o]) (n := 5) (Nat.le_of_ble_eq_true rfl)
  rw [lg_entry_eq]
  generalize (lg_sl ([.ref (G 0 0), .int x0, .int x1, .ref o]) ++ List.replicate (5 - (lg_sl ([.ref (G 0 0), .int x0, .int x1, .ref o])).length) Slot.unset).toArray = ls at hl ⊢
  have hl : lv_has ls 5 [(0, .ref (G 0 0)), (1, .int x0), (2, .int x1), (3, .ref o)] := hl
  have hC2 := cx_to hC (Nat.le_refl s.heap.size)
  have hB2 := bd_s hC hB
  refine lv_aload_n hx hb d_Law_part_0 rfl (lv_at hl 3 rfl) ?_
  refine lv_iconst (v := 0) hx hb d_Law_part_1 (by decide) ?_
  refine lv_aload_n hx hb d_Law_part_2 rfl (lv_at hl 0 rfl) ?_
  refine lv_iload_n hx hb d_Law_part_3 rfl (lv_at hl 1 rfl) ?_
  refine lv_iload_n hx hb d_Law_part_4 rfl (lv_at hl 2 rfl) ?_
  refine kx hC2 hSW hB2 _ lkC_ST rfl (x_ST_part htl σ π x0 x1 hR) allw_ok mf_ST_part kw_590 kw_591 kw_589 ⟨rfl, rfl, Nat.le_of_ble_eq_true rfl, Nat.le_of_ble_eq_true rfl⟩ rfl rfl hl.1 (Nat.le_of_ble_eq_true rfl) d_Law_part_5 ⟨Nat.le_of_ble_eq_true rfl, Nat.le_of_ble_eq_true rfl⟩ (fun q ce H locs hB h1 h2 h3 => ?_)
  refine cth hC2 htab ⟨by decide, by decide⟩ (by decide) kw_588 h1 h2 h3 ?_
  refine lv_astore (i := 4) hx hb d_Law_part_13 hl (by decide) rfl (fun ls hl => ?_)
  refine lv_iconst (v := 1) hx hb d_Law_part_15 (by decide) ?_
  exact ri hC (bd_w hB hC.2.2.2.2.2.2.2.2.1) ⟨π, hπ, rfl⟩ d_Law_part_16
set_option maxHeartbeats 400000 in
set_option maxRecDepth 100000 in
theorem h_gate (σ : SC) (π : PJ) (hπ : RJ π σ) (o : Nat) (f : Nat → Int64) (x0 : Int32) (x1 : Int32) (x2 : Int32) (RES : Bool × SC) (hR : m_ST_gate σ x0 x1 x2 = some RES) : HM l y_Law_gate b_Law_gate 6 [(0, 19, 22, 13)] { frames := 6, cells := 3, slots := 12, locals := 134 } D (tyL cI cL cQ) N0 [.ref (G 0 0), .int x0, .int x1, .int x2, .ref o] (wsC G cI cL cQ σ π (oc o cL f :: rest)) (some (.int 0)) (pwC G cI cL cQ RES.2 (oc o cL (vp_updL f 0 (lb RES.1)) :: rest)) 3 12 := by
  obtain ⟨RV, RS⟩ := RES
  dsimp only
  refine met_w (own := R_Law) (by decide) rfl nwl_ok ?_
  intro p e s m below meth c hC hSW htab hB
  have hx := hC.1
  have hb := hC.2.1
  have hl := lv_entry ([.ref (G 0 0), .int x0, .int x1, .int x2, .ref o]) (n := 6) (Nat.le_of_ble_eq_true rfl)
  rw [lg_entry_eq]
  generalize (lg_sl ([.ref (G 0 0), .int x0, .int x1, .int x2, .ref o]) ++ List.replicate (6 - (lg_sl ([.ref (G 0 0), .int x0, .int x1, .int x2, .ref o])).length) Slot.unset).toArray = ls at hl ⊢
  have hl : lv_has ls 6 [(0, .ref (G 0 0)), (1, .int x0), (2, .int x1), (3, .int x2), (4, .ref o)] := hl
  refine lv_aload hx hb d_Law_gate_0 (lv_at hl 4 rfl) ?_
  refine lv_iconst (v := 0) hx hb d_Law_gate_2 (by decide) ?_
  refine lv_aload_n hx hb d_Law_gate_3 rfl (lv_at hl 0 rfl) ?_
  refine lv_iload_n hx hb d_Law_gate_4 rfl (lv_at hl 1 rfl) ?_
  refine lv_iload_n hx hb d_Law_gate_5 rfl (lv_at hl 2 rfl) ?_
  refine lv_iload_n hx hb d_Law_gate_6 rfl (lv_at hl 3 rfl) ?_
  refine kV hC hB _ lkC_ST rfl (c_ST_gate σ π hπ x0 x1 x2 (RV, RS) hR) allw_ok mf_ST_gate kw_623 kw_624 kw_622 ⟨rfl, rfl, Nat.le_of_ble_eq_true rfl, Nat.le_of_ble_eq_true rfl⟩ rfl rfl hl.1 (Nat.le_of_ble_eq_true rfl) d_Law_gate_7 ⟨Nat.le_of_ble_eq_true rfl, Nat.le_of_ble_eq_true rfl⟩ (fun H locs w hw hB => ?_)
  obtain ⟨π, hπ, rfl⟩ := hw
  rcases RV with _ | _
  · refine lv_if_eq (tgt := 17) hx hb d_Law_gate_10 (by decide) (fun c_1 => ?_) (fun c_1 => absurd (show bi false = 0 from rfl) c_1)
    refine lv_lconst (v := 0) hx hb d_Law_gate_17 (by decide) ?_
    refine as_l rfl hC hB 52 1 lkC_out rfl vin0 d_Law_gate_18 setC_out (fun H locs hB => ?_)
    refine lv_goto (tgt := 26) hx hb d_Law_gate_19 (by decide) ?_
    refine lv_iconst (v := 0) hx hb d_Law_gate_26 (by decide) ?_
    exact ri hC hB ⟨π, hπ, rfl⟩ d_Law_gate_27
  · refine lv_if_eq (tgt := 17) hx hb d_Law_gate_10 (by decide) (fun c_1 => absurd c_1 (show ¬ bi true = 0 by decide)) (fun c_1 => ?_)
    refine lv_lconst (v := 1) hx hb d_Law_gate_13 (by decide) ?_
    refine lv_goto (tgt := 18) hx hb d_Law_gate_14 (by decide) ?_
    refine as_l rfl hC hB 52 1 lkC_out rfl vin0 d_Law_gate_18 setC_out (fun H locs hB => ?_)
    refine lv_goto (tgt := 26) hx hb d_Law_gate_19 (by decide) ?_
    refine lv_iconst (v := 0) hx hb d_Law_gate_26 (by decide) ?_
    exact ri hC hB ⟨π, hπ, rfl⟩ d_Law_gate_27
set_option maxHeartbeats 400000 in
set_option maxRecDepth 100000 in
theorem ht_gate (htl : l.stackTraces = false) (σ : SC) (π : PJ) (hπ : RJ π σ) (o : Nat) (f : Nat → Int64) (x0 : Int32) (x1 : Int32) (x2 : Int32) (hR : m_ST_gate σ x0 x1 x2 = none) : HM l y_Law_gate b_Law_gate 6 [(0, 19, 22, 13)] { frames := 8, cells := 1, slots := 6, locals := 135 } D (tyL cI cL cQ) N0 [.ref (G 0 0), .int x0, .int x1, .int x2, .ref o] (wsC G cI cL cQ σ π (oc o cL f :: rest)) (some (.int 1)) (pwC G cI cL cQ σ (oc o cL f :: rest)) 1 6 := by
  refine met_w (own := R_Law) (by decide) rfl nwl_ok ?_
  intro p e s m below meth c hC hSW htab hB
  have hx := hC.1
  have hb := hC.2.1
  have hl := lv_entry ([.ref (G 0 0), .int x0, .int x1, .int x2, .ref o]) (n := 6) (Nat.le_of_ble_eq_true rfl)
  rw [lg_entry_eq]
  generalize (lg_sl ([.ref (G 0 0), .int x0, .int x1, .int x2, .ref o]) ++ List.replicate (6 - (lg_sl ([.ref (G 0 0), .int x0, .int x1, .int x2, .ref o])).length) Slot.unset).toArray = ls at hl ⊢
  have hl : lv_has ls 6 [(0, .ref (G 0 0)), (1, .int x0), (2, .int x1), (3, .int x2), (4, .ref o)] := hl
  have hC2 := cx_to hC (Nat.le_refl s.heap.size)
  have hB2 := bd_s hC hB
  refine lv_aload hx hb d_Law_gate_0 (lv_at hl 4 rfl) ?_
  refine lv_iconst (v := 0) hx hb d_Law_gate_2 (by decide) ?_
  refine lv_aload_n hx hb d_Law_gate_3 rfl (lv_at hl 0 rfl) ?_
  refine lv_iload_n hx hb d_Law_gate_4 rfl (lv_at hl 1 rfl) ?_
  refine lv_iload_n hx hb d_Law_gate_5 rfl (lv_at hl 2 rfl) ?_
  refine lv_iload_n hx hb d_Law_gate_6 rfl (lv_at hl 3 rfl) ?_
  refine kx hC2 hSW hB2 _ lkC_ST rfl (x_ST_gate htl σ π x0 x1 x2 hR) allw_ok mf_ST_gate kw_623 kw_624 kw_622 ⟨rfl, rfl, Nat.le_of_ble_eq_true rfl, Nat.le_of_ble_eq_true rfl⟩ rfl rfl hl.1 (Nat.le_of_ble_eq_true rfl) d_Law_gate_7 ⟨Nat.le_of_ble_eq_true rfl, Nat.le_of_ble_eq_true rfl⟩ (fun q ce H locs hB h1 h2 h3 => ?_)
  refine cth hC2 htab ⟨by decide, by decide⟩ (by decide) kw_382 h1 h2 h3 ?_
  refine lv_astore (i := 5) hx hb d_Law_gate_22 hl (by decide) rfl (fun ls hl => ?_)
  refine lv_iconst (v := 1) hx hb d_Law_gate_24 (by decide) ?_
  exact ri hC (bd_w hB hC.2.2.2.2.2.2.2.2.1) ⟨π, hπ, rfl⟩ d_Law_gate_25
set_option maxHeartbeats 400000 in
set_option maxRecDepth 100000 in
theorem h_copy (σ : SC) (π : PJ) (hπ : RJ π σ) (o : Nat) (f : Nat → Int64) (x0 : Int32) (RES : Int32 × SC) (hR : m_ST_copy σ x0 = some RES) : HM l y_Law_copy b_Law_copy 4 [(0, 9, 12, 13)] { frames := 8, cells := cpM σ x0, slots := 4 * cpM σ x0, locals := 179 } D (tyL cI cL cQ) N0 [.ref (G 0 0), .int x0, .ref o] (wsC G cI cL cQ σ π (oc o cL f :: rest)) (some (.int 0)) (pwC G cI cL cQ RES.2 (oc o cL (vp_updL f 0 RES.1.toInt64) :: rest)) (cpM σ x0) (4 * cpM σ x0) := by
  refine met_w (own := R_Law) (by decide) rfl nwl_ok ?_
  intro p e s m below meth c hC hSW htab hB
  have hx := hC.1
  have hb := hC.2.1
  have hl := lv_entry ([.ref (G 0 0), .int x0, .ref o]) (n := 4) (Nat.le_of_ble_eq_true rfl)
  rw [lg_entry_eq]
  generalize (lg_sl ([.ref (G 0 0), .int x0, .ref o]) ++ List.replicate (4 - (lg_sl ([.ref (G 0 0), .int x0, .ref o])).length) Slot.unset).toArray = ls at hl ⊢
  have hl : lv_has ls 4 [(0, .ref (G 0 0)), (1, .int x0), (2, .ref o)] := hl
  refine lv_aload_n hx hb d_Law_copy_0 rfl (lv_at hl 2 rfl) ?_
  refine lv_iconst (v := 0) hx hb d_Law_copy_1 (by decide) ?_
  refine lv_aload_n hx hb d_Law_copy_2 rfl (lv_at hl 0 rfl) ?_
  refine lv_iload_n hx hb d_Law_copy_3 rfl (lv_at hl 1 rfl) ?_
  refine kV hC hB _ lkC_ST rfl (show CM l y_ST_copy b_ST_copy 3 _ { frames := 7, cells := cpM σ x0, slots := 4 * cpM σ x0, locals := 157 } D (tyL cI cL cQ) N0 N0 _ _ _ _ (cpM σ x0) (4 * cpM σ x0) from (c_ST_copy σ π hπ x0 RES hR)) allw_ok mf_ST_copy kw_661 kw_662 kw_660 ⟨rfl, rfl, Nat.le_of_ble_eq_true rfl, Nat.le_of_ble_eq_true rfl⟩ rfl rfl hl.1 (Nat.le_of_ble_eq_true rfl) d_Law_copy_4 ⟨Nat.le_of_eq (Nat.zero_add _), Nat.le_of_eq (Nat.zero_add _)⟩ (fun H locs w hw hB => ?_)
  obtain ⟨π, hπ, rfl⟩ := hw
  refine lv_i2l hx hb d_Law_copy_7 rfl ?_
  refine as_l rfl hC hB 52 1 lkC_out rfl vin0 d_Law_copy_8 setC_out (fun H locs hB => ?_)
  refine lv_goto (tgt := 15) hx hb d_Law_copy_9 (by decide) ?_
  refine lv_iconst (v := 0) hx hb d_Law_copy_15 (by decide) ?_
  refine W.widen (k := (cpM σ x0)) (n := (4 * cpM σ x0)) (Nat.le_of_eq (Nat.zero_add _)) (Nat.le_of_eq (Nat.zero_add _)) ?_
  exact ri hC hB ⟨π, hπ, rfl⟩ d_Law_copy_16
set_option maxHeartbeats 400000 in
set_option maxRecDepth 100000 in
theorem h0_copy (σ : SC) (π : PJ) (hπ : RJ π σ) (o : Nat) (f : Nat → Int64) (x0 : Int32) (RES : Int32 × SC) (hR : m_ST_copy σ x0 = some RES) (hF : cpF σ x0) : HM l y_Law_copy b_Law_copy 4 [(0, 9, 12, 13)] { frames := 8, cells := 0, slots := 0, locals := 179 } D (tyL cI cL cQ) N0 [.ref (G 0 0), .int x0, .ref o] (wsC G cI cL cQ σ π (oc o cL f :: rest)) (some (.int 0)) (pwC G cI cL cQ RES.2 (oc o cL (vp_updL f 0 RES.1.toInt64) :: rest)) 0 0 := by
  refine met_w (own := R_Law) (by decide) rfl nwl_ok ?_
  intro p e s m below meth c hC hSW htab hB
  have hx := hC.1
  have hb := hC.2.1
  have hl := lv_entry ([.ref (G 0 0), .int x0, .ref o]) (n := 4) (Nat.le_of_ble_eq_true rfl)
  rw [lg_entry_eq]
  generalize (lg_sl ([.ref (G 0 0), .int x0, .ref o]) ++ List.replicate (4 - (lg_sl ([.ref (G 0 0), .int x0, .ref o])).length) Slot.unset).toArray = ls at hl ⊢
  have hl : lv_has ls 4 [(0, .ref (G 0 0)), (1, .int x0), (2, .ref o)] := hl
  refine lv_aload_n hx hb d_Law_copy_0 rfl (lv_at hl 2 rfl) ?_
  refine lv_iconst (v := 0) hx hb d_Law_copy_1 (by decide) ?_
  refine lv_aload_n hx hb d_Law_copy_2 rfl (lv_at hl 0 rfl) ?_
  refine lv_iload_n hx hb d_Law_copy_3 rfl (lv_at hl 1 rfl) ?_
  refine kV hC hB _ lkC_ST rfl (c0_ST_copy σ π hπ x0 RES hR hF) allw_ok mf_ST_copy kw_661 kw_662 kw_660 ⟨rfl, rfl, Nat.le_of_ble_eq_true rfl, Nat.le_of_ble_eq_true rfl⟩ rfl rfl hl.1 (Nat.le_of_ble_eq_true rfl) d_Law_copy_4 ⟨Nat.le_of_ble_eq_true rfl, Nat.le_of_ble_eq_true rfl⟩ (fun H locs w hw hB => ?_)
  obtain ⟨π, hπ, rfl⟩ := hw
  refine lv_i2l hx hb d_Law_copy_7 rfl ?_
  refine as_l rfl hC hB 52 1 lkC_out rfl vin0 d_Law_copy_8 setC_out (fun H locs hB => ?_)
  refine lv_goto (tgt := 15) hx hb d_Law_copy_9 (by decide) ?_
  refine lv_iconst (v := 0) hx hb d_Law_copy_15 (by decide) ?_
  exact ri hC hB ⟨π, hπ, rfl⟩ d_Law_copy_16
set_option maxHeartbeats 400000 in
set_option maxRecDepth 100000 in
theorem ht_copy (htl : l.stackTraces = false) (σ : SC) (π : PJ) (hπ : RJ π σ) (o : Nat) (f : Nat → Int64) (x0 : Int32) (hR : m_ST_copy σ x0 = none) : HM l y_Law_copy b_Law_copy 4 [(0, 9, 12, 13)] { frames := 8, cells := 1, slots := 6, locals := 179 } D (tyL cI cL cQ) N0 [.ref (G 0 0), .int x0, .ref o] (wsC G cI cL cQ σ π (oc o cL f :: rest)) (some (.int 1)) (pwC G cI cL cQ σ (oc o cL f :: rest)) 1 6 := by
  refine met_w (own := R_Law) (by decide) rfl nwl_ok ?_
  intro p e s m below meth c hC hSW htab hB
  have hx := hC.1
  have hb := hC.2.1
  have hl := lv_entry ([.ref (G 0 0), .int x0, .ref o]) (n := 4) (Nat.le_of_ble_eq_true rfl)
  rw [lg_entry_eq]
  generalize (lg_sl ([.ref (G 0 0), .int x0, .ref o]) ++ List.replicate (4 - (lg_sl ([.ref (G 0 0), .int x0, .ref o])).length) Slot.unset).toArray = ls at hl ⊢
  have hl : lv_has ls 4 [(0, .ref (G 0 0)), (1, .int x0), (2, .ref o)] := hl
  have hC2 := cx_to hC (Nat.le_refl s.heap.size)
  have hB2 := bd_s hC hB
  refine lv_aload_n hx hb d_Law_copy_0 rfl (lv_at hl 2 rfl) ?_
  refine lv_iconst (v := 0) hx hb d_Law_copy_1 (by decide) ?_
  refine lv_aload_n hx hb d_Law_copy_2 rfl (lv_at hl 0 rfl) ?_
  refine lv_iload_n hx hb d_Law_copy_3 rfl (lv_at hl 1 rfl) ?_
  refine kx hC2 hSW hB2 _ lkC_ST rfl (x_ST_copy htl σ π x0 hR) allw_ok mf_ST_copy kw_661 kw_662 kw_660 ⟨rfl, rfl, Nat.le_of_ble_eq_true rfl, Nat.le_of_ble_eq_true rfl⟩ rfl rfl hl.1 (Nat.le_of_ble_eq_true rfl) d_Law_copy_4 ⟨Nat.le_of_ble_eq_true rfl, Nat.le_of_ble_eq_true rfl⟩ (fun q ce H locs hB h1 h2 h3 => ?_)
  refine cth hC2 htab ⟨by decide, by decide⟩ (by decide) kw_382 h1 h2 h3 ?_
  refine lv_astore_n (i := 3) hx hb d_Law_copy_12 rfl hl (by decide) rfl (fun ls hl => ?_)
  refine lv_iconst (v := 1) hx hb d_Law_copy_13 (by decide) ?_
  exact ri hC (bd_w hB hC.2.2.2.2.2.2.2.2.1) ⟨π, hπ, rfl⟩ d_Law_copy_14
set_option maxHeartbeats 400000 in
set_option maxRecDepth 100000 in
theorem h_rule (σ : SC) (π : PJ) (hπ : RJ π σ) (o : Nat) (f : Nat → Int64) (x0 : Int32) (RES : Bool × SC) (hR : m_ST_rule σ x0 = some RES) : HM l y_Law_rule b_Law_rule 4 [(0, 16, 19, 36)] { frames := 5, cells := 1, slots := 4, locals := 108 } D (tyL cI cL cQ) N0 [.ref (G 0 0), .int x0, .ref o] (wsC G cI cL cQ σ π (oc o cL f :: rest)) (some (.int 0)) (pwC G cI cL cQ RES.2 (oc o cL (vp_updL f 0 (lb RES.1)) :: rest)) 1 4 := by
  obtain ⟨RV, RS⟩ := RES
  dsimp only
  refine met_w (own := R_Law) (by decide) rfl nwl_ok ?_
  intro p e s m below meth c hC hSW htab hB
  have hx := hC.1
  have hb := hC.2.1
  have hl := lv_entry ([.ref (G 0 0), .int x0, .ref o]) (n := 4) (Nat.le_of_ble_eq_true rfl)
  rw [lg_entry_eq]
  generalize (lg_sl ([.ref (G 0 0), .int x0, .ref o]) ++ List.replicate (4 - (lg_sl ([.ref (G 0 0), .int x0, .ref o])).length) Slot.unset).toArray = ls at hl ⊢
  have hl : lv_has ls 4 [(0, .ref (G 0 0)), (1, .int x0), (2, .ref o)] := hl
  refine lv_aload_n hx hb d_Law_rule_0 rfl (lv_at hl 2 rfl) ?_
  refine lv_iconst (v := 0) hx hb d_Law_rule_1 (by decide) ?_
  refine lv_aload_n hx hb d_Law_rule_2 rfl (lv_at hl 0 rfl) ?_
  refine lv_iload_n hx hb d_Law_rule_3 rfl (lv_at hl 1 rfl) ?_
  refine kV hC hB _ lkC_ST rfl (c_ST_rule σ π hπ x0 (RV, RS) hR) allw_ok mf_ST_rule kw_709 kw_710 kw_708 ⟨rfl, rfl, Nat.le_of_ble_eq_true rfl, Nat.le_of_ble_eq_true rfl⟩ rfl rfl hl.1 (Nat.le_of_ble_eq_true rfl) d_Law_rule_4 ⟨Nat.le_of_ble_eq_true rfl, Nat.le_of_ble_eq_true rfl⟩ (fun H locs w hw hB => ?_)
  obtain ⟨π, hπ, rfl⟩ := hw
  rcases RV with _ | _
  · refine lv_if_eq (tgt := 14) hx hb d_Law_rule_7 (by decide) (fun c_1 => ?_) (fun c_1 => absurd (show bi false = 0 from rfl) c_1)
    refine lv_lconst (v := 0) hx hb d_Law_rule_14 (by decide) ?_
    refine as_l rfl hC hB 52 1 lkC_out rfl vin0 d_Law_rule_15 setC_out (fun H locs hB => ?_)
    refine lv_goto (tgt := 22) hx hb d_Law_rule_16 (by decide) ?_
    refine lv_iconst (v := 0) hx hb d_Law_rule_22 (by decide) ?_
    exact ri hC hB ⟨π, hπ, rfl⟩ d_Law_rule_23
  · refine lv_if_eq (tgt := 14) hx hb d_Law_rule_7 (by decide) (fun c_1 => absurd c_1 (show ¬ bi true = 0 by decide)) (fun c_1 => ?_)
    refine lv_lconst (v := 1) hx hb d_Law_rule_10 (by decide) ?_
    refine lv_goto (tgt := 15) hx hb d_Law_rule_11 (by decide) ?_
    refine as_l rfl hC hB 52 1 lkC_out rfl vin0 d_Law_rule_15 setC_out (fun H locs hB => ?_)
    refine lv_goto (tgt := 22) hx hb d_Law_rule_16 (by decide) ?_
    refine lv_iconst (v := 0) hx hb d_Law_rule_22 (by decide) ?_
    exact ri hC hB ⟨π, hπ, rfl⟩ d_Law_rule_23
set_option maxHeartbeats 400000 in
set_option maxRecDepth 100000 in
theorem ht_rule (htl : l.stackTraces = false) (σ : SC) (π : PJ) (hπ : RJ π σ) (o : Nat) (f : Nat → Int64) (x0 : Int32) (hR : m_ST_rule σ x0 = none) : HM l y_Law_rule b_Law_rule 4 [(0, 16, 19, 36)] { frames := 7, cells := 1, slots := 6, locals := 111 } D (tyL cI cL cQ) N0 [.ref (G 0 0), .int x0, .ref o] (wsC G cI cL cQ σ π (oc o cL f :: rest)) (some (.int 1)) (pwC G cI cL cQ σ (oc o cL f :: rest)) 1 6 := by
  refine met_w (own := R_Law) (by decide) rfl nwl_ok ?_
  intro p e s m below meth c hC hSW htab hB
  have hx := hC.1
  have hb := hC.2.1
  have hl := lv_entry ([.ref (G 0 0), .int x0, .ref o]) (n := 4) (Nat.le_of_ble_eq_true rfl)
  rw [lg_entry_eq]
  generalize (lg_sl ([.ref (G 0 0), .int x0, .ref o]) ++ List.replicate (4 - (lg_sl ([.ref (G 0 0), .int x0, .ref o])).length) Slot.unset).toArray = ls at hl ⊢
  have hl : lv_has ls 4 [(0, .ref (G 0 0)), (1, .int x0), (2, .ref o)] := hl
  have hC2 := cx_to hC (Nat.le_refl s.heap.size)
  have hB2 := bd_s hC hB
  refine lv_aload_n hx hb d_Law_rule_0 rfl (lv_at hl 2 rfl) ?_
  refine lv_iconst (v := 0) hx hb d_Law_rule_1 (by decide) ?_
  refine lv_aload_n hx hb d_Law_rule_2 rfl (lv_at hl 0 rfl) ?_
  refine lv_iload_n hx hb d_Law_rule_3 rfl (lv_at hl 1 rfl) ?_
  refine kx hC2 hSW hB2 _ lkC_ST rfl (x_ST_rule htl σ π x0 hR) allw_ok mf_ST_rule kw_709 kw_710 kw_708 ⟨rfl, rfl, Nat.le_of_ble_eq_true rfl, Nat.le_of_ble_eq_true rfl⟩ rfl rfl hl.1 (Nat.le_of_ble_eq_true rfl) d_Law_rule_4 ⟨Nat.le_of_ble_eq_true rfl, Nat.le_of_ble_eq_true rfl⟩ (fun q ce H locs hB h1 h2 h3 => ?_)
  refine cth hC2 htab ⟨by decide, by decide⟩ (by decide) kw_588 h1 h2 h3 ?_
  refine lv_astore_n (i := 3) hx hb d_Law_rule_19 rfl hl (by decide) rfl (fun ls hl => ?_)
  refine lv_iconst (v := 1) hx hb d_Law_rule_20 (by decide) ?_
  exact ri hC (bd_w hB hC.2.2.2.2.2.2.2.2.1) ⟨π, hπ, rfl⟩ d_Law_rule_21
set_option maxHeartbeats 400000 in
set_option maxRecDepth 100000 in
theorem h_variant (σ : SC) (π : PJ) (hπ : RJ π σ) (o : Nat) (f : Nat → Int64) (x0 : Int32) (RES : Int32 × SC) (hR : m_ST_variant σ x0 = some RES) : HM l y_Law_variant b_Law_variant 4 [(0, 9, 12, 13)] { frames := 6, cells := 2, slots := 8, locals := 131 } D (tyL cI cL cQ) N0 [.ref (G 0 0), .int x0, .ref o] (wsC G cI cL cQ σ π (oc o cL f :: rest)) (some (.int 0)) (pwC G cI cL cQ RES.2 (oc o cL (vp_updL f 0 RES.1.toInt64) :: rest)) 2 8 := by
  refine met_w (own := R_Law) (by decide) rfl nwl_ok ?_
  intro p e s m below meth c hC hSW htab hB
  have hx := hC.1
  have hb := hC.2.1
  have hl := lv_entry ([.ref (G 0 0), .int x0, .ref o]) (n := 4) (Nat.le_of_ble_eq_true rfl)
  rw [lg_entry_eq]
  generalize (lg_sl ([.ref (G 0 0), .int x0, .ref o]) ++ List.replicate (4 - (lg_sl ([.ref (G 0 0), .int x0, .ref o])).length) Slot.unset).toArray = ls at hl ⊢
  have hl : lv_has ls 4 [(0, .ref (G 0 0)), (1, .int x0), (2, .ref o)] := hl
  refine lv_aload_n hx hb d_Law_variant_0 rfl (lv_at hl 2 rfl) ?_
  refine lv_iconst (v := 0) hx hb d_Law_variant_1 (by decide) ?_
  refine lv_aload_n hx hb d_Law_variant_2 rfl (lv_at hl 0 rfl) ?_
  refine lv_iload_n hx hb d_Law_variant_3 rfl (lv_at hl 1 rfl) ?_
  refine kV hC hB _ lkC_ST rfl (c_ST_variant σ π hπ x0 RES hR) allw_ok mf_ST_variant kw_719 kw_720 kw_718 ⟨rfl, rfl, Nat.le_of_ble_eq_true rfl, Nat.le_of_ble_eq_true rfl⟩ rfl rfl hl.1 (Nat.le_of_ble_eq_true rfl) d_Law_variant_4 ⟨Nat.le_of_ble_eq_true rfl, Nat.le_of_ble_eq_true rfl⟩ (fun H locs w hw hB => ?_)
  obtain ⟨π, hπ, rfl⟩ := hw
  refine lv_i2l hx hb d_Law_variant_7 rfl ?_
  refine as_l rfl hC hB 52 1 lkC_out rfl vin0 d_Law_variant_8 setC_out (fun H locs hB => ?_)
  refine lv_goto (tgt := 15) hx hb d_Law_variant_9 (by decide) ?_
  refine lv_iconst (v := 0) hx hb d_Law_variant_15 (by decide) ?_
  exact ri hC hB ⟨π, hπ, rfl⟩ d_Law_variant_16
set_option maxHeartbeats 400000 in
set_option maxRecDepth 100000 in
theorem ht_variant (htl : l.stackTraces = false) (σ : SC) (π : PJ) (hπ : RJ π σ) (o : Nat) (f : Nat → Int64) (x0 : Int32) (hR : m_ST_variant σ x0 = none) : HM l y_Law_variant b_Law_variant 4 [(0, 9, 12, 13)] { frames := 9, cells := 1, slots := 6, locals := 154 } D (tyL cI cL cQ) N0 [.ref (G 0 0), .int x0, .ref o] (wsC G cI cL cQ σ π (oc o cL f :: rest)) (some (.int 1)) (pwC G cI cL cQ σ (oc o cL f :: rest)) 1 6 := by
  refine met_w (own := R_Law) (by decide) rfl nwl_ok ?_
  intro p e s m below meth c hC hSW htab hB
  have hx := hC.1
  have hb := hC.2.1
  have hl := lv_entry ([.ref (G 0 0), .int x0, .ref o]) (n := 4) (Nat.le_of_ble_eq_true rfl)
  rw [lg_entry_eq]
  generalize (lg_sl ([.ref (G 0 0), .int x0, .ref o]) ++ List.replicate (4 - (lg_sl ([.ref (G 0 0), .int x0, .ref o])).length) Slot.unset).toArray = ls at hl ⊢
  have hl : lv_has ls 4 [(0, .ref (G 0 0)), (1, .int x0), (2, .ref o)] := hl
  have hC2 := cx_to hC (Nat.le_refl s.heap.size)
  have hB2 := bd_s hC hB
  refine lv_aload_n hx hb d_Law_variant_0 rfl (lv_at hl 2 rfl) ?_
  refine lv_iconst (v := 0) hx hb d_Law_variant_1 (by decide) ?_
  refine lv_aload_n hx hb d_Law_variant_2 rfl (lv_at hl 0 rfl) ?_
  refine lv_iload_n hx hb d_Law_variant_3 rfl (lv_at hl 1 rfl) ?_
  refine kx hC2 hSW hB2 _ lkC_ST rfl (x_ST_variant htl σ π x0 hR) allw_ok mf_ST_variant kw_719 kw_720 kw_718 ⟨rfl, rfl, Nat.le_of_ble_eq_true rfl, Nat.le_of_ble_eq_true rfl⟩ rfl rfl hl.1 (Nat.le_of_ble_eq_true rfl) d_Law_variant_4 ⟨Nat.le_of_ble_eq_true rfl, Nat.le_of_ble_eq_true rfl⟩ (fun q ce H locs hB h1 h2 h3 => ?_)
  refine cth hC2 htab ⟨by decide, by decide⟩ (by decide) kw_382 h1 h2 h3 ?_
  refine lv_astore_n (i := 3) hx hb d_Law_variant_12 rfl hl (by decide) rfl (fun ls hl => ?_)
  refine lv_iconst (v := 1) hx hb d_Law_variant_13 (by decide) ?_
  exact ri hC (bd_w hB hC.2.2.2.2.2.2.2.2.1) ⟨π, hπ, rfl⟩ d_Law_variant_14
set_option maxHeartbeats 400000 in
set_option maxRecDepth 100000 in
theorem h_value (σ : SC) (π : PJ) (hπ : RJ π σ) (o : Nat) (f : Nat → Int64) (x0 : Int32) (x1 : Int32) (x2 : Int32) (x3 : Int64) (RES : Bool × SC) (hR : m_ST_value σ x0 x1 x2 x3 = some RES) : HM l y_Law_value b_Law_value 8 [(0, 21, 24, 13)] { frames := 8, cells := vlM σ 0 x0 x1 x2, slots := 4 * vlM σ 0 x0 x1 x2, locals := 191 } D (tyL cI cL cQ) N0 [.ref (G 0 0), .int x0, .int x1, .int x2, .long x3, .ref o] (wsC G cI cL cQ σ π (oc o cL f :: rest)) (some (.int 0)) (pwC G cI cL cQ RES.2 (oc o cL (vp_updL f 0 (lb RES.1)) :: rest)) (vlM σ 0 x0 x1 x2) (4 * vlM σ 0 x0 x1 x2) := by
  obtain ⟨RV, RS⟩ := RES
  dsimp only
  refine met_w (own := R_Law) (by decide) rfl nwl_ok ?_
  intro p e s m below meth c hC hSW htab hB
  have hx := hC.1
  have hb := hC.2.1
  have hl := lv_entry ([.ref (G 0 0), .int x0, .int x1, .int x2, .long x3, .ref o]) (n := 8) (Nat.le_of_ble_eq_true rfl)
  rw [lg_entry_eq]
  generalize (lg_sl ([.ref (G 0 0), .int x0, .int x1, .int x2, .long x3, .ref o]) ++ List.replicate (8 - (lg_sl ([.ref (G 0 0), .int x0, .int x1, .int x2, .long x3, .ref o])).length) Slot.unset).toArray = ls at hl ⊢
  have hl : lv_has ls 8 [(0, .ref (G 0 0)), (1, .int x0), (2, .int x1), (3, .int x2), (4, .long x3), (6, .ref o)] := hl
  refine lv_aload hx hb d_Law_value_0 (lv_at hl 5 rfl) ?_
  refine lv_iconst (v := 0) hx hb d_Law_value_2 (by decide) ?_
  refine lv_aload_n hx hb d_Law_value_3 rfl (lv_at hl 0 rfl) ?_
  refine lv_iload_n hx hb d_Law_value_4 rfl (lv_at hl 1 rfl) ?_
  refine lv_iload_n hx hb d_Law_value_5 rfl (lv_at hl 2 rfl) ?_
  refine lv_iload_n hx hb d_Law_value_6 rfl (lv_at hl 3 rfl) ?_
  refine lv_lload hx hb d_Law_value_7 (lv_at hl 4 rfl) ?_
  refine kV hC hB _ lkC_ST rfl (show CM l y_ST_value b_ST_value 6 _ { frames := 7, cells := vlM σ 0 x0 x1 x2, slots := 4 * vlM σ 0 x0 x1 x2, locals := 166 } D (tyL cI cL cQ) N0 N0 _ _ _ _ (vlM σ 0 x0 x1 x2) (4 * vlM σ 0 x0 x1 x2) from (c_ST_value σ π hπ x0 x1 x2 x3 (RV, RS) hR)) allw_ok mf_ST_value kw_750 kw_751 kw_749 ⟨rfl, rfl, Nat.le_of_ble_eq_true rfl, Nat.le_of_ble_eq_true rfl⟩ rfl rfl hl.1 (Nat.le_of_ble_eq_true rfl) d_Law_value_9 ⟨Nat.le_of_eq (Nat.zero_add _), Nat.le_of_eq (Nat.zero_add _)⟩ (fun H locs w hw hB => ?_)
  obtain ⟨π, hπ, rfl⟩ := hw
  rcases RV with _ | _
  · refine lv_if_eq (tgt := 19) hx hb d_Law_value_12 (by decide) (fun c_1 => ?_) (fun c_1 => absurd (show bi false = 0 from rfl) c_1)
    refine lv_lconst (v := 0) hx hb d_Law_value_19 (by decide) ?_
    refine as_l rfl hC hB 52 1 lkC_out rfl vin0 d_Law_value_20 setC_out (fun H locs hB => ?_)
    refine lv_goto (tgt := 28) hx hb d_Law_value_21 (by decide) ?_
    refine lv_iconst (v := 0) hx hb d_Law_value_28 (by decide) ?_
    refine W.widen (k := (vlM σ 0 x0 x1 x2)) (n := (4 * vlM σ 0 x0 x1 x2)) (Nat.le_of_eq (Nat.zero_add _)) (Nat.le_of_eq (Nat.zero_add _)) ?_
    exact ri hC hB ⟨π, hπ, rfl⟩ d_Law_value_29
  · refine lv_if_eq (tgt := 19) hx hb d_Law_value_12 (by decide) (fun c_1 => absurd c_1 (show ¬ bi true = 0 by decide)) (fun c_1 => ?_)
    refine lv_lconst (v := 1) hx hb d_Law_value_15 (by decide) ?_
    refine lv_goto (tgt := 20) hx hb d_Law_value_16 (by decide) ?_
    refine as_l rfl hC hB 52 1 lkC_out rfl vin0 d_Law_value_20 setC_out (fun H locs hB => ?_)
    refine lv_goto (tgt := 28) hx hb d_Law_value_21 (by decide) ?_
    refine lv_iconst (v := 0) hx hb d_Law_value_28 (by decide) ?_
    refine W.widen (k := (vlM σ 0 x0 x1 x2)) (n := (4 * vlM σ 0 x0 x1 x2)) (Nat.le_of_eq (Nat.zero_add _)) (Nat.le_of_eq (Nat.zero_add _)) ?_
    exact ri hC hB ⟨π, hπ, rfl⟩ d_Law_value_29
set_option maxHeartbeats 400000 in
set_option maxRecDepth 100000 in
theorem ht_value (htl : l.stackTraces = false) (σ : SC) (π : PJ) (hπ : RJ π σ) (o : Nat) (f : Nat → Int64) (x0 : Int32) (x1 : Int32) (x2 : Int32) (x3 : Int64) (hR : m_ST_value σ x0 x1 x2 x3 = none) : HM l y_Law_value b_Law_value 8 [(0, 21, 24, 13)] { frames := 9, cells := 1, slots := 6, locals := 191 } D (tyL cI cL cQ) N0 [.ref (G 0 0), .int x0, .int x1, .int x2, .long x3, .ref o] (wsC G cI cL cQ σ π (oc o cL f :: rest)) (some (.int 1)) (pwC G cI cL cQ σ (oc o cL f :: rest)) 1 6 := by
  refine met_w (own := R_Law) (by decide) rfl nwl_ok ?_
  intro p e s m below meth c hC hSW htab hB
  have hx := hC.1
  have hb := hC.2.1
  have hl := lv_entry ([.ref (G 0 0), .int x0, .int x1, .int x2, .long x3, .ref o]) (n := 8) (Nat.le_of_ble_eq_true rfl)
  rw [lg_entry_eq]
  generalize (lg_sl ([.ref (G 0 0), .int x0, .int x1, .int x2, .long x3, .ref o]) ++ List.replicate (8 - (lg_sl ([.ref (G 0 0), .int x0, .int x1, .int x2, .long x3, .ref o])).length) Slot.unset).toArray = ls at hl ⊢
  have hl : lv_has ls 8 [(0, .ref (G 0 0)), (1, .int x0), (2, .int x1), (3, .int x2), (4, .long x3), (6, .ref o)] := hl
  have hC2 := cx_to hC (Nat.le_refl s.heap.size)
  have hB2 := bd_s hC hB
  refine lv_aload hx hb d_Law_value_0 (lv_at hl 5 rfl) ?_
  refine lv_iconst (v := 0) hx hb d_Law_value_2 (by decide) ?_
  refine lv_aload_n hx hb d_Law_value_3 rfl (lv_at hl 0 rfl) ?_
  refine lv_iload_n hx hb d_Law_value_4 rfl (lv_at hl 1 rfl) ?_
  refine lv_iload_n hx hb d_Law_value_5 rfl (lv_at hl 2 rfl) ?_
  refine lv_iload_n hx hb d_Law_value_6 rfl (lv_at hl 3 rfl) ?_
  refine lv_lload hx hb d_Law_value_7 (lv_at hl 4 rfl) ?_
  refine kx hC2 hSW hB2 _ lkC_ST rfl (x_ST_value htl σ π x0 x1 x2 x3 hR) allw_ok mf_ST_value kw_750 kw_751 kw_749 ⟨rfl, rfl, Nat.le_of_ble_eq_true rfl, Nat.le_of_ble_eq_true rfl⟩ rfl rfl hl.1 (Nat.le_of_ble_eq_true rfl) d_Law_value_9 ⟨Nat.le_of_ble_eq_true rfl, Nat.le_of_ble_eq_true rfl⟩ (fun q ce H locs hB h1 h2 h3 => ?_)
  refine cth hC2 htab ⟨by decide, by decide⟩ (by decide) kw_382 h1 h2 h3 ?_
  refine lv_astore (i := 7) hx hb d_Law_value_24 hl (by decide) rfl (fun ls hl => ?_)
  refine lv_iconst (v := 1) hx hb d_Law_value_26 (by decide) ?_
  exact ri hC (bd_w hB hC.2.2.2.2.2.2.2.2.1) ⟨π, hπ, rfl⟩ d_Law_value_27
set_option maxHeartbeats 400000 in
set_option maxRecDepth 100000 in
theorem h_fit (σ : SC) (π : PJ) (hπ : RJ π σ) (o : Nat) (f : Nat → Int64) (x0 : Int32) (x1 : Int32) (x2 : Int32) (x3 : Bool) (RES : Bool × SC) (hR : m_ST_fit σ x0 x1 x2 x3 = some RES) : HM l y_Law_fit b_Law_fit 7 [(0, 21, 24, 13)] { frames := 8, cells := vlM σ 1 x0 x1 x2, slots := 4 * vlM σ 1 x0 x1 x2, locals := 190 } D (tyL cI cL cQ) N0 [.ref (G 0 0), .int x0, .int x1, .int x2, .int (bi x3), .ref o] (wsC G cI cL cQ σ π (oc o cL f :: rest)) (some (.int 0)) (pwC G cI cL cQ RES.2 (oc o cL (vp_updL f 0 (lb RES.1)) :: rest)) (vlM σ 1 x0 x1 x2) (4 * vlM σ 1 x0 x1 x2) := by
  obtain ⟨RV, RS⟩ := RES
  dsimp only
  refine met_w (own := R_Law) (by decide) rfl nwl_ok ?_
  intro p e s m below meth c hC hSW htab hB
  have hx := hC.1
  have hb := hC.2.1
  have hl := lv_entry ([.ref (G 0 0), .int x0, .int x1, .int x2, .int (bi x3), .ref o]) (n := 7) (Nat.le_of_ble_eq_true rfl)
  rw [lg_entry_eq]
  generalize (lg_sl ([.ref (G 0 0), .int x0, .int x1, .int x2, .int (bi x3), .ref o]) ++ List.replicate (7 - (lg_sl ([.ref (G 0 0), .int x0, .int x1, .int x2, .int (bi x3), .ref o])).length) Slot.unset).toArray = ls at hl ⊢
  have hl : lv_has ls 7 [(0, .ref (G 0 0)), (1, .int x0), (2, .int x1), (3, .int x2), (4, .int (bi x3)), (5, .ref o)] := hl
  refine lv_aload hx hb d_Law_fit_0 (lv_at hl 5 rfl) ?_
  refine lv_iconst (v := 0) hx hb d_Law_fit_2 (by decide) ?_
  refine lv_aload_n hx hb d_Law_fit_3 rfl (lv_at hl 0 rfl) ?_
  refine lv_iload_n hx hb d_Law_fit_4 rfl (lv_at hl 1 rfl) ?_
  refine lv_iload_n hx hb d_Law_fit_5 rfl (lv_at hl 2 rfl) ?_
  refine lv_iload_n hx hb d_Law_fit_6 rfl (lv_at hl 3 rfl) ?_
  refine lv_iload hx hb d_Law_fit_7 (lv_at hl 4 rfl) ?_
  refine kV hC hB _ lkC_ST rfl (show CM l y_ST_fit b_ST_fit 5 _ { frames := 7, cells := vlM σ 1 x0 x1 x2, slots := 4 * vlM σ 1 x0 x1 x2, locals := 166 } D (tyL cI cL cQ) N0 N0 _ _ _ _ (vlM σ 1 x0 x1 x2) (4 * vlM σ 1 x0 x1 x2) from (c_ST_fit σ π hπ x0 x1 x2 x3 (RV, RS) hR)) allw_ok mf_ST_fit kw_793 kw_794 kw_792 ⟨rfl, rfl, Nat.le_of_ble_eq_true rfl, Nat.le_of_ble_eq_true rfl⟩ rfl rfl hl.1 (Nat.le_of_ble_eq_true rfl) d_Law_fit_9 ⟨Nat.le_of_eq (Nat.zero_add _), Nat.le_of_eq (Nat.zero_add _)⟩ (fun H locs w hw hB => ?_)
  obtain ⟨π, hπ, rfl⟩ := hw
  rcases RV with _ | _
  · refine lv_if_eq (tgt := 19) hx hb d_Law_fit_12 (by decide) (fun c_1 => ?_) (fun c_1 => absurd (show bi false = 0 from rfl) c_1)
    refine lv_lconst (v := 0) hx hb d_Law_fit_19 (by decide) ?_
    refine as_l rfl hC hB 52 1 lkC_out rfl vin0 d_Law_fit_20 setC_out (fun H locs hB => ?_)
    refine lv_goto (tgt := 28) hx hb d_Law_fit_21 (by decide) ?_
    refine lv_iconst (v := 0) hx hb d_Law_fit_28 (by decide) ?_
    refine W.widen (k := (vlM σ 1 x0 x1 x2)) (n := (4 * vlM σ 1 x0 x1 x2)) (Nat.le_of_eq (Nat.zero_add _)) (Nat.le_of_eq (Nat.zero_add _)) ?_
    exact ri hC hB ⟨π, hπ, rfl⟩ d_Law_fit_29
  · refine lv_if_eq (tgt := 19) hx hb d_Law_fit_12 (by decide) (fun c_1 => absurd c_1 (show ¬ bi true = 0 by decide)) (fun c_1 => ?_)
    refine lv_lconst (v := 1) hx hb d_Law_fit_15 (by decide) ?_
    refine lv_goto (tgt := 20) hx hb d_Law_fit_16 (by decide) ?_
    refine as_l rfl hC hB 52 1 lkC_out rfl vin0 d_Law_fit_20 setC_out (fun H locs hB => ?_)
    refine lv_goto (tgt := 28) hx hb d_Law_fit_21 (by decide) ?_
    refine lv_iconst (v := 0) hx hb d_Law_fit_28 (by decide) ?_
    refine W.widen (k := (vlM σ 1 x0 x1 x2)) (n := (4 * vlM σ 1 x0 x1 x2)) (Nat.le_of_eq (Nat.zero_add _)) (Nat.le_of_eq (Nat.zero_add _)) ?_
    exact ri hC hB ⟨π, hπ, rfl⟩ d_Law_fit_29
set_option maxHeartbeats 400000 in
set_option maxRecDepth 100000 in
theorem ht_fit (htl : l.stackTraces = false) (σ : SC) (π : PJ) (hπ : RJ π σ) (o : Nat) (f : Nat → Int64) (x0 : Int32) (x1 : Int32) (x2 : Int32) (x3 : Bool) (hR : m_ST_fit σ x0 x1 x2 x3 = none) : HM l y_Law_fit b_Law_fit 7 [(0, 21, 24, 13)] { frames := 9, cells := 1, slots := 6, locals := 190 } D (tyL cI cL cQ) N0 [.ref (G 0 0), .int x0, .int x1, .int x2, .int (bi x3), .ref o] (wsC G cI cL cQ σ π (oc o cL f :: rest)) (some (.int 1)) (pwC G cI cL cQ σ (oc o cL f :: rest)) 1 6 := by
  refine met_w (own := R_Law) (by decide) rfl nwl_ok ?_
  intro p e s m below meth c hC hSW htab hB
  have hx := hC.1
  have hb := hC.2.1
  have hl := lv_entry ([.ref (G 0 0), .int x0, .int x1, .int x2, .int (bi x3), .ref o]) (n := 7) (Nat.le_of_ble_eq_true rfl)
  rw [lg_entry_eq]
  generalize (lg_sl ([.ref (G 0 0), .int x0, .int x1, .int x2, .int (bi x3), .ref o]) ++ List.replicate (7 - (lg_sl ([.ref (G 0 0), .int x0, .int x1, .int x2, .int (bi x3), .ref o])).length) Slot.unset).toArray = ls at hl ⊢
  have hl : lv_has ls 7 [(0, .ref (G 0 0)), (1, .int x0), (2, .int x1), (3, .int x2), (4, .int (bi x3)), (5, .ref o)] := hl
  have hC2 := cx_to hC (Nat.le_refl s.heap.size)
  have hB2 := bd_s hC hB
  refine lv_aload hx hb d_Law_fit_0 (lv_at hl 5 rfl) ?_
  refine lv_iconst (v := 0) hx hb d_Law_fit_2 (by decide) ?_
  refine lv_aload_n hx hb d_Law_fit_3 rfl (lv_at hl 0 rfl) ?_
  refine lv_iload_n hx hb d_Law_fit_4 rfl (lv_at hl 1 rfl) ?_
  refine lv_iload_n hx hb d_Law_fit_5 rfl (lv_at hl 2 rfl) ?_
  refine lv_iload_n hx hb d_Law_fit_6 rfl (lv_at hl 3 rfl) ?_
  refine lv_iload hx hb d_Law_fit_7 (lv_at hl 4 rfl) ?_
  refine kx hC2 hSW hB2 _ lkC_ST rfl (x_ST_fit htl σ π x0 x1 x2 x3 hR) allw_ok mf_ST_fit kw_793 kw_794 kw_792 ⟨rfl, rfl, Nat.le_of_ble_eq_true rfl, Nat.le_of_ble_eq_true rfl⟩ rfl rfl hl.1 (Nat.le_of_ble_eq_true rfl) d_Law_fit_9 ⟨Nat.le_of_ble_eq_true rfl, Nat.le_of_ble_eq_true rfl⟩ (fun q ce H locs hB h1 h2 h3 => ?_)
  refine cth hC2 htab ⟨by decide, by decide⟩ (by decide) kw_382 h1 h2 h3 ?_
  refine lv_astore (i := 6) hx hb d_Law_fit_24 hl (by decide) rfl (fun ls hl => ?_)
  refine lv_iconst (v := 1) hx hb d_Law_fit_26 (by decide) ?_
  exact ri hC (bd_w hB hC.2.2.2.2.2.2.2.2.1) ⟨π, hπ, rfl⟩ d_Law_fit_27
set_option maxHeartbeats 400000 in
set_option maxRecDepth 100000 in
theorem h_valueOf (σ : SC) (π : PJ) (hπ : RJ π σ) (o : Nat) (f : Nat → Int64) (x0 : Int32) (x1 : Int32) (x2 : Int32) (RES : Int64) (hR : m_ST_valueOf σ x0 x1 x2 = some RES) : HM l y_Law_valueOf b_Law_valueOf 6 [(0, 11, 14, 13)] { frames := 7, cells := 0, slots := 0, locals := 170 } D (tyL cI cL cQ) N0 [.ref (G 0 0), .int x0, .int x1, .int x2, .ref o] (wsC G cI cL cQ σ π (oc o cL f :: rest)) (some (.int 0)) (pwC G cI cL cQ σ (oc o cL (vp_updL f 0 RES) :: rest)) 0 0 := by
  refine met_w (own := R_Law) (by decide) rfl nwl_ok ?_
  intro p e s m below meth c hC hSW htab hB
  have hx := hC.1
  have hb := hC.2.1
  have hl := lv_entry ([.ref (G 0 0), .int x0, .int x1, .int x2, .ref o]) (n := 6) (Nat.le_of_ble_eq_true rfl)
  rw [lg_entry_eq]
  generalize (lg_sl ([.ref (G 0 0), .int x0, .int x1, .int x2, .ref o]) ++ List.replicate (6 - (lg_sl ([.ref (G 0 0), .int x0, .int x1, .int x2, .ref o])).length) Slot.unset).toArray = ls at hl ⊢
  have hl : lv_has ls 6 [(0, .ref (G 0 0)), (1, .int x0), (2, .int x1), (3, .int x2), (4, .ref o)] := hl
  refine lv_aload hx hb d_Law_valueOf_0 (lv_at hl 4 rfl) ?_
  refine lv_iconst (v := 0) hx hb d_Law_valueOf_2 (by decide) ?_
  refine lv_aload_n hx hb d_Law_valueOf_3 rfl (lv_at hl 0 rfl) ?_
  refine lv_iload_n hx hb d_Law_valueOf_4 rfl (lv_at hl 1 rfl) ?_
  refine lv_iload_n hx hb d_Law_valueOf_5 rfl (lv_at hl 2 rfl) ?_
  refine lv_iload_n hx hb d_Law_valueOf_6 rfl (lv_at hl 3 rfl) ?_
  refine kV hC hB _ lkC_ST rfl (c_ST_valueOf σ π x0 x1 x2 RES hR) allw_ok mf_ST_valueOf kw_800 kw_801 kw_799 ⟨rfl, rfl, Nat.le_of_ble_eq_true rfl, Nat.le_of_ble_eq_true rfl⟩ rfl rfl hl.1 (Nat.le_of_ble_eq_true rfl) d_Law_valueOf_7 ⟨Nat.le_of_ble_eq_true rfl, Nat.le_of_ble_eq_true rfl⟩ (fun H locs w hw hB => ?_)
  subst hw
  refine as_l rfl hC hB 52 1 lkC_out rfl vin0 d_Law_valueOf_10 setC_out (fun H locs hB => ?_)
  refine lv_goto (tgt := 18) hx hb d_Law_valueOf_11 (by decide) ?_
  refine lv_iconst (v := 0) hx hb d_Law_valueOf_18 (by decide) ?_
  exact ri hC hB ⟨π, hπ, rfl⟩ d_Law_valueOf_19
set_option maxHeartbeats 400000 in
set_option maxRecDepth 100000 in
theorem ht_valueOf (htl : l.stackTraces = false) (σ : SC) (π : PJ) (hπ : RJ π σ) (o : Nat) (f : Nat → Int64) (x0 : Int32) (x1 : Int32) (x2 : Int32) (hR : m_ST_valueOf σ x0 x1 x2 = none) : HM l y_Law_valueOf b_Law_valueOf 6 [(0, 11, 14, 13)] { frames := 10, cells := 1, slots := 6, locals := 182 } D (tyL cI cL cQ) N0 [.ref (G 0 0), .int x0, .int x1, .int x2, .ref o] (wsC G cI cL cQ σ π (oc o cL f :: rest)) (some (.int 1)) (pwC G cI cL cQ σ (oc o cL f :: rest)) 1 6 := by
  refine met_w (own := R_Law) (by decide) rfl nwl_ok ?_
  intro p e s m below meth c hC hSW htab hB
  have hx := hC.1
  have hb := hC.2.1
  have hl := lv_entry ([.ref (G 0 0), .int x0, .int x1, .int x2, .ref o]) (n := 6) (Nat.le_of_ble_eq_true rfl)
  rw [lg_entry_eq]
  generalize (lg_sl ([.ref (G 0 0), .int x0, .int x1, .int x2, .ref o]) ++ List.replicate (6 - (lg_sl ([.ref (G 0 0), .int x0, .int x1, .int x2, .ref o])).length) Slot.unset).toArray = ls at hl ⊢
  have hl : lv_has ls 6 [(0, .ref (G 0 0)), (1, .int x0), (2, .int x1), (3, .int x2), (4, .ref o)] := hl
  have hC2 := cx_to hC (Nat.le_refl s.heap.size)
  have hB2 := bd_s hC hB
  refine lv_aload hx hb d_Law_valueOf_0 (lv_at hl 4 rfl) ?_
  refine lv_iconst (v := 0) hx hb d_Law_valueOf_2 (by decide) ?_
  refine lv_aload_n hx hb d_Law_valueOf_3 rfl (lv_at hl 0 rfl) ?_
  refine lv_iload_n hx hb d_Law_valueOf_4 rfl (lv_at hl 1 rfl) ?_
  refine lv_iload_n hx hb d_Law_valueOf_5 rfl (lv_at hl 2 rfl) ?_
  refine lv_iload_n hx hb d_Law_valueOf_6 rfl (lv_at hl 3 rfl) ?_
  refine kx hC2 hSW hB2 _ lkC_ST rfl (x_ST_valueOf htl σ π x0 x1 x2 hR) allw_ok mf_ST_valueOf kw_800 kw_801 kw_799 ⟨rfl, rfl, Nat.le_of_ble_eq_true rfl, Nat.le_of_ble_eq_true rfl⟩ rfl rfl hl.1 (Nat.le_of_ble_eq_true rfl) d_Law_valueOf_7 ⟨Nat.le_of_ble_eq_true rfl, Nat.le_of_ble_eq_true rfl⟩ (fun q ce H locs hB h1 h2 h3 => ?_)
  refine cth hC2 htab ⟨by decide, by decide⟩ (by decide) kw_382 h1 h2 h3 ?_
  refine lv_astore (i := 5) hx hb d_Law_valueOf_14 hl (by decide) rfl (fun ls hl => ?_)
  refine lv_iconst (v := 1) hx hb d_Law_valueOf_16 (by decide) ?_
  exact ri hC (bd_w hB hC.2.2.2.2.2.2.2.2.1) ⟨π, hπ, rfl⟩ d_Law_valueOf_17
set_option maxHeartbeats 400000 in
set_option maxRecDepth 100000 in
theorem h_fitted (σ : SC) (π : PJ) (hπ : RJ π σ) (o : Nat) (f : Nat → Int64) (x0 : Int32) (x1 : Int32) (x2 : Int32) (RES : Bool) (hR : m_ST_fitted σ x0 x1 x2 = some RES) : HM l y_Law_fitted b_Law_fitted 6 [(0, 19, 22, 13)] { frames := 7, cells := 0, slots := 0, locals := 170 } D (tyL cI cL cQ) N0 [.ref (G 0 0), .int x0, .int x1, .int x2, .ref o] (wsC G cI cL cQ σ π (oc o cL f :: rest)) (some (.int 0)) (pwC G cI cL cQ σ (oc o cL (vp_updL f 0 (lb RES)) :: rest)) 0 0 := by
  refine met_w (own := R_Law) (by decide) rfl nwl_ok ?_
  intro p e s m below meth c hC hSW htab hB
  have hx := hC.1
  have hb := hC.2.1
  have hl := lv_entry ([.ref (G 0 0), .int x0, .int x1, .int x2, .ref o]) (n := 6) (Nat.le_of_ble_eq_true rfl)
  rw [lg_entry_eq]
  generalize (lg_sl ([.ref (G 0 0), .int x0, .int x1, .int x2, .ref o]) ++ List.replicate (6 - (lg_sl ([.ref (G 0 0), .int x0, .int x1, .int x2, .ref o])).length) Slot.unset).toArray = ls at hl ⊢
  have hl : lv_has ls 6 [(0, .ref (G 0 0)), (1, .int x0), (2, .int x1), (3, .int x2), (4, .ref o)] := hl
  refine lv_aload hx hb d_Law_fitted_0 (lv_at hl 4 rfl) ?_
  refine lv_iconst (v := 0) hx hb d_Law_fitted_2 (by decide) ?_
  refine lv_aload_n hx hb d_Law_fitted_3 rfl (lv_at hl 0 rfl) ?_
  refine lv_iload_n hx hb d_Law_fitted_4 rfl (lv_at hl 1 rfl) ?_
  refine lv_iload_n hx hb d_Law_fitted_5 rfl (lv_at hl 2 rfl) ?_
  refine lv_iload_n hx hb d_Law_fitted_6 rfl (lv_at hl 3 rfl) ?_
  refine kV hC hB _ lkC_ST rfl (c_ST_fitted σ π x0 x1 x2 RES hR) allw_ok mf_ST_fitted kw_816 kw_817 kw_815 ⟨rfl, rfl, Nat.le_of_ble_eq_true rfl, Nat.le_of_ble_eq_true rfl⟩ rfl rfl hl.1 (Nat.le_of_ble_eq_true rfl) d_Law_fitted_7 ⟨Nat.le_of_ble_eq_true rfl, Nat.le_of_ble_eq_true rfl⟩ (fun H locs w hw hB => ?_)
  subst hw
  rcases RES with _ | _
  · refine lv_if_eq (tgt := 17) hx hb d_Law_fitted_10 (by decide) (fun c_1 => ?_) (fun c_1 => absurd (show bi false = 0 from rfl) c_1)
    refine lv_lconst (v := 0) hx hb d_Law_fitted_17 (by decide) ?_
    refine as_l rfl hC hB 52 1 lkC_out rfl vin0 d_Law_fitted_18 setC_out (fun H locs hB => ?_)
    refine lv_goto (tgt := 26) hx hb d_Law_fitted_19 (by decide) ?_
    refine lv_iconst (v := 0) hx hb d_Law_fitted_26 (by decide) ?_
    exact ri hC hB ⟨π, hπ, rfl⟩ d_Law_fitted_27
  · refine lv_if_eq (tgt := 17) hx hb d_Law_fitted_10 (by decide) (fun c_1 => absurd c_1 (show ¬ bi true = 0 by decide)) (fun c_1 => ?_)
    refine lv_lconst (v := 1) hx hb d_Law_fitted_13 (by decide) ?_
    refine lv_goto (tgt := 18) hx hb d_Law_fitted_14 (by decide) ?_
    refine as_l rfl hC hB 52 1 lkC_out rfl vin0 d_Law_fitted_18 setC_out (fun H locs hB => ?_)
    refine lv_goto (tgt := 26) hx hb d_Law_fitted_19 (by decide) ?_
    refine lv_iconst (v := 0) hx hb d_Law_fitted_26 (by decide) ?_
    exact ri hC hB ⟨π, hπ, rfl⟩ d_Law_fitted_27
set_option maxHeartbeats 400000 in
set_option maxRecDepth 100000 in
theorem ht_fitted (htl : l.stackTraces = false) (σ : SC) (π : PJ) (hπ : RJ π σ) (o : Nat) (f : Nat → Int64) (x0 : Int32) (x1 : Int32) (x2 : Int32) (hR : m_ST_fitted σ x0 x1 x2 = none) : HM l y_Law_fitted b_Law_fitted 6 [(0, 19, 22, 13)] { frames := 10, cells := 1, slots := 6, locals := 182 } D (tyL cI cL cQ) N0 [.ref (G 0 0), .int x0, .int x1, .int x2, .ref o] (wsC G cI cL cQ σ π (oc o cL f :: rest)) (some (.int 1)) (pwC G cI cL cQ σ (oc o cL f :: rest)) 1 6 := by
  refine met_w (own := R_Law) (by decide) rfl nwl_ok ?_
  intro p e s m below meth c hC hSW htab hB
  have hx := hC.1
  have hb := hC.2.1
  have hl := lv_entry ([.ref (G 0 0), .int x0, .int x1, .int x2, .ref o]) (n := 6) (Nat.le_of_ble_eq_true rfl)
  rw [lg_entry_eq]
  generalize (lg_sl ([.ref (G 0 0), .int x0, .int x1, .int x2, .ref o]) ++ List.replicate (6 - (lg_sl ([.ref (G 0 0), .int x0, .int x1, .int x2, .ref o])).length) Slot.unset).toArray = ls at hl ⊢
  have hl : lv_has ls 6 [(0, .ref (G 0 0)), (1, .int x0), (2, .int x1), (3, .int x2), (4, .ref o)] := hl
  have hC2 := cx_to hC (Nat.le_refl s.heap.size)
  have hB2 := bd_s hC hB
  refine lv_aload hx hb d_Law_fitted_0 (lv_at hl 4 rfl) ?_
  refine lv_iconst (v := 0) hx hb d_Law_fitted_2 (by decide) ?_
  refine lv_aload_n hx hb d_Law_fitted_3 rfl (lv_at hl 0 rfl) ?_
  refine lv_iload_n hx hb d_Law_fitted_4 rfl (lv_at hl 1 rfl) ?_
  refine lv_iload_n hx hb d_Law_fitted_5 rfl (lv_at hl 2 rfl) ?_
  refine lv_iload_n hx hb d_Law_fitted_6 rfl (lv_at hl 3 rfl) ?_
  refine kx hC2 hSW hB2 _ lkC_ST rfl (x_ST_fitted htl σ π x0 x1 x2 hR) allw_ok mf_ST_fitted kw_816 kw_817 kw_815 ⟨rfl, rfl, Nat.le_of_ble_eq_true rfl, Nat.le_of_ble_eq_true rfl⟩ rfl rfl hl.1 (Nat.le_of_ble_eq_true rfl) d_Law_fitted_7 ⟨Nat.le_of_ble_eq_true rfl, Nat.le_of_ble_eq_true rfl⟩ (fun q ce H locs hB h1 h2 h3 => ?_)
  refine cth hC2 htab ⟨by decide, by decide⟩ (by decide) kw_382 h1 h2 h3 ?_
  refine lv_astore (i := 5) hx hb d_Law_fitted_22 hl (by decide) rfl (fun ls hl => ?_)
  refine lv_iconst (v := 1) hx hb d_Law_fitted_24 (by decide) ?_
  exact ri hC (bd_w hB hC.2.2.2.2.2.2.2.2.1) ⟨π, hπ, rfl⟩ d_Law_fitted_25
set_option maxHeartbeats 400000 in
set_option maxRecDepth 100000 in
theorem h_page (σ : SC) (π : PJ) (hπ : RJ π σ) (o : Nat) (f : Nat → Int64) (x0 : Int32) (x1 : Int32) (RES : Int32) (hR : m_ST_page σ x0 x1 = some RES) : HM l y_Law_page b_Law_page 5 [(0, 10, 13, 13)] { frames := 3, cells := 0, slots := 0, locals := 64 } D (tyL cI cL cQ) N0 [.ref (G 0 0), .int x0, .int x1, .ref o] (wsC G cI cL cQ σ π (oc o cL f :: rest)) (some (.int 0)) (pwC G cI cL cQ σ (oc o cL (vp_updL f 0 RES.toInt64) :: rest)) 0 0 := by
  refine met_w (own := R_Law) (by decide) rfl nwl_ok ?_
  intro p e s m below meth c hC hSW htab hB
  have hx := hC.1
  have hb := hC.2.1
  have hl := lv_entry ([.ref (G 0 0), .int x0, .int x1, .ref o]) (n := 5) (Nat.le_of_ble_eq_true rfl)
  rw [lg_entry_eq]
  generalize (lg_sl ([.ref (G 0 0), .int x0, .int x1, .ref o]) ++ List.replicate (5 - (lg_sl ([.ref (G 0 0), .int x0, .int x1, .ref o])).length) Slot.unset).toArray = ls at hl ⊢
  have hl : lv_has ls 5 [(0, .ref (G 0 0)), (1, .int x0), (2, .int x1), (3, .ref o)] := hl
  refine lv_aload_n hx hb d_Law_page_0 rfl (lv_at hl 3 rfl) ?_
  refine lv_iconst (v := 0) hx hb d_Law_page_1 (by decide) ?_
  refine lv_aload_n hx hb d_Law_page_2 rfl (lv_at hl 0 rfl) ?_
  refine lv_iload_n hx hb d_Law_page_3 rfl (lv_at hl 1 rfl) ?_
  refine lv_iload_n hx hb d_Law_page_4 rfl (lv_at hl 2 rfl) ?_
  refine kV hC hB _ lkC_ST rfl (c_ST_page σ π x0 x1 RES hR) allw_ok mf_ST_page kw_823 kw_824 kw_822 ⟨rfl, rfl, Nat.le_of_ble_eq_true rfl, Nat.le_of_ble_eq_true rfl⟩ rfl rfl hl.1 (Nat.le_of_ble_eq_true rfl) d_Law_page_5 ⟨Nat.le_of_ble_eq_true rfl, Nat.le_of_ble_eq_true rfl⟩ (fun H locs w hw hB => ?_)
  subst hw
  refine lv_i2l hx hb d_Law_page_8 rfl ?_
  refine as_l rfl hC hB 52 1 lkC_out rfl vin0 d_Law_page_9 setC_out (fun H locs hB => ?_)
  refine lv_goto (tgt := 17) hx hb d_Law_page_10 (by decide) ?_
  refine lv_iconst (v := 0) hx hb d_Law_page_17 (by decide) ?_
  exact ri hC hB ⟨π, hπ, rfl⟩ d_Law_page_18
set_option maxHeartbeats 400000 in
set_option maxRecDepth 100000 in
theorem ht_page (htl : l.stackTraces = false) (σ : SC) (π : PJ) (hπ : RJ π σ) (o : Nat) (f : Nat → Int64) (x0 : Int32) (x1 : Int32) (hR : m_ST_page σ x0 x1 = none) : HM l y_Law_page b_Law_page 5 [(0, 10, 13, 13)] { frames := 8, cells := 1, slots := 6, locals := 133 } D (tyL cI cL cQ) N0 [.ref (G 0 0), .int x0, .int x1, .ref o] (wsC G cI cL cQ σ π (oc o cL f :: rest)) (some (.int 1)) (pwC G cI cL cQ σ (oc o cL f :: rest)) 1 6 := by
  refine met_w (own := R_Law) (by decide) rfl nwl_ok ?_
  intro p e s m below meth c hC hSW htab hB
  have hx := hC.1
  have hb := hC.2.1
  have hl := lv_entry ([.ref (G 0 0), .int x0, .int x1, .ref o]) (n := 5) (Nat.le_of_ble_eq_true rfl)
  rw [lg_entry_eq]
  generalize (lg_sl ([.ref (G 0 0), .int x0, .int x1, .ref o]) ++ List.replicate (5 - (lg_sl ([.ref (G 0 0), .int x0, .int x1, .ref o])).length) Slot.unset).toArray = ls at hl ⊢
  have hl : lv_has ls 5 [(0, .ref (G 0 0)), (1, .int x0), (2, .int x1), (3, .ref o)] := hl
  have hC2 := cx_to hC (Nat.le_refl s.heap.size)
  have hB2 := bd_s hC hB
  refine lv_aload_n hx hb d_Law_page_0 rfl (lv_at hl 3 rfl) ?_
  refine lv_iconst (v := 0) hx hb d_Law_page_1 (by decide) ?_
  refine lv_aload_n hx hb d_Law_page_2 rfl (lv_at hl 0 rfl) ?_
  refine lv_iload_n hx hb d_Law_page_3 rfl (lv_at hl 1 rfl) ?_
  refine lv_iload_n hx hb d_Law_page_4 rfl (lv_at hl 2 rfl) ?_
  refine kx hC2 hSW hB2 _ lkC_ST rfl (x_ST_page htl σ π x0 x1 hR) allw_ok mf_ST_page kw_823 kw_824 kw_822 ⟨rfl, rfl, Nat.le_of_ble_eq_true rfl, Nat.le_of_ble_eq_true rfl⟩ rfl rfl hl.1 (Nat.le_of_ble_eq_true rfl) d_Law_page_5 ⟨Nat.le_of_ble_eq_true rfl, Nat.le_of_ble_eq_true rfl⟩ (fun q ce H locs hB h1 h2 h3 => ?_)
  refine cth hC2 htab ⟨by decide, by decide⟩ (by decide) kw_382 h1 h2 h3 ?_
  refine lv_astore (i := 4) hx hb d_Law_page_13 hl (by decide) rfl (fun ls hl => ?_)
  refine lv_iconst (v := 1) hx hb d_Law_page_15 (by decide) ?_
  exact ri hC (bd_w hB hC.2.2.2.2.2.2.2.2.1) ⟨π, hπ, rfl⟩ d_Law_page_16
set_option maxHeartbeats 400000 in
set_option maxRecDepth 100000 in
theorem h_units (σ : SC) (π : PJ) (hπ : RJ π σ) (o : Nat) (f : Nat → Int64) (x0 : Int32) (RES : Int32) (hR : m_ST_units σ x0 = some RES) : HM l y_Law_units b_Law_units 4 [(0, 9, 12, 13)] { frames := 4, cells := 0, slots := 0, locals := 87 } D (tyL cI cL cQ) N0 [.ref (G 0 0), .int x0, .ref o] (wsC G cI cL cQ σ π (oc o cL f :: rest)) (some (.int 0)) (pwC G cI cL cQ σ (oc o cL (vp_updL f 0 RES.toInt64) :: rest)) 0 0 := by
  refine met_w (own := R_Law) (by decide) rfl nwl_ok ?_
  intro p e s m below meth c hC hSW htab hB
  have hx := hC.1
  have hb := hC.2.1
  have hl := lv_entry ([.ref (G 0 0), .int x0, .ref o]) (n := 4) (Nat.le_of_ble_eq_true rfl)
  rw [lg_entry_eq]
  generalize (lg_sl ([.ref (G 0 0), .int x0, .ref o]) ++ List.replicate (4 - (lg_sl ([.ref (G 0 0), .int x0, .ref o])).length) Slot.unset).toArray = ls at hl ⊢
  have hl : lv_has ls 4 [(0, .ref (G 0 0)), (1, .int x0), (2, .ref o)] := hl
  refine lv_aload_n hx hb d_Law_units_0 rfl (lv_at hl 2 rfl) ?_
  refine lv_iconst (v := 0) hx hb d_Law_units_1 (by decide) ?_
  refine lv_aload_n hx hb d_Law_units_2 rfl (lv_at hl 0 rfl) ?_
  refine lv_iload_n hx hb d_Law_units_3 rfl (lv_at hl 1 rfl) ?_
  refine kV hC hB _ lkC_ST rfl (c_ST_units σ π x0 RES hR) allw_ok mf_ST_units kw_835 kw_836 kw_834 ⟨rfl, rfl, Nat.le_of_ble_eq_true rfl, Nat.le_of_ble_eq_true rfl⟩ rfl rfl hl.1 (Nat.le_of_ble_eq_true rfl) d_Law_units_4 ⟨Nat.le_of_ble_eq_true rfl, Nat.le_of_ble_eq_true rfl⟩ (fun H locs w hw hB => ?_)
  subst hw
  refine lv_i2l hx hb d_Law_units_7 rfl ?_
  refine as_l rfl hC hB 52 1 lkC_out rfl vin0 d_Law_units_8 setC_out (fun H locs hB => ?_)
  refine lv_goto (tgt := 15) hx hb d_Law_units_9 (by decide) ?_
  refine lv_iconst (v := 0) hx hb d_Law_units_15 (by decide) ?_
  exact ri hC hB ⟨π, hπ, rfl⟩ d_Law_units_16
set_option maxHeartbeats 400000 in
set_option maxRecDepth 100000 in
theorem ht_units (htl : l.stackTraces = false) (σ : SC) (π : PJ) (hπ : RJ π σ) (o : Nat) (f : Nat → Int64) (x0 : Int32) (hR : m_ST_units σ x0 = none) : HM l y_Law_units b_Law_units 4 [(0, 9, 12, 13)] { frames := 8, cells := 1, slots := 6, locals := 132 } D (tyL cI cL cQ) N0 [.ref (G 0 0), .int x0, .ref o] (wsC G cI cL cQ σ π (oc o cL f :: rest)) (some (.int 1)) (pwC G cI cL cQ σ (oc o cL f :: rest)) 1 6 := by
  refine met_w (own := R_Law) (by decide) rfl nwl_ok ?_
  intro p e s m below meth c hC hSW htab hB
  have hx := hC.1
  have hb := hC.2.1
  have hl := lv_entry ([.ref (G 0 0), .int x0, .ref o]) (n := 4) (Nat.le_of_ble_eq_true rfl)
  rw [lg_entry_eq]
  generalize (lg_sl ([.ref (G 0 0), .int x0, .ref o]) ++ List.replicate (4 - (lg_sl ([.ref (G 0 0), .int x0, .ref o])).length) Slot.unset).toArray = ls at hl ⊢
  have hl : lv_has ls 4 [(0, .ref (G 0 0)), (1, .int x0), (2, .ref o)] := hl
  have hC2 := cx_to hC (Nat.le_refl s.heap.size)
  have hB2 := bd_s hC hB
  refine lv_aload_n hx hb d_Law_units_0 rfl (lv_at hl 2 rfl) ?_
  refine lv_iconst (v := 0) hx hb d_Law_units_1 (by decide) ?_
  refine lv_aload_n hx hb d_Law_units_2 rfl (lv_at hl 0 rfl) ?_
  refine lv_iload_n hx hb d_Law_units_3 rfl (lv_at hl 1 rfl) ?_
  refine kx hC2 hSW hB2 _ lkC_ST rfl (x_ST_units htl σ π x0 hR) allw_ok mf_ST_units kw_835 kw_836 kw_834 ⟨rfl, rfl, Nat.le_of_ble_eq_true rfl, Nat.le_of_ble_eq_true rfl⟩ rfl rfl hl.1 (Nat.le_of_ble_eq_true rfl) d_Law_units_4 ⟨Nat.le_of_ble_eq_true rfl, Nat.le_of_ble_eq_true rfl⟩ (fun q ce H locs hB h1 h2 h3 => ?_)
  refine cth hC2 htab ⟨by decide, by decide⟩ (by decide) kw_382 h1 h2 h3 ?_
  refine lv_astore_n (i := 3) hx hb d_Law_units_12 rfl hl (by decide) rfl (fun ls hl => ?_)
  refine lv_iconst (v := 1) hx hb d_Law_units_13 (by decide) ?_
  exact ri hC (bd_w hB hC.2.2.2.2.2.2.2.2.1) ⟨π, hπ, rfl⟩ d_Law_units_14
set_option maxHeartbeats 400000 in
set_option maxRecDepth 100000 in
theorem h_where (σ : SC) (π : PJ) (hπ : RJ π σ) (o : Nat) (f : Nat → Int64) (x0 : Int32) (x1 : Int32) (x2 : Int32) (RES : Int32) (hR : m_ST_where σ x0 x1 x2 = some RES) : HM l y_Law_where b_Law_where 6 [(0, 12, 15, 13)] { frames := 5, cells := 0, slots := 0, locals := 111 } D (tyL cI cL cQ) N0 [.ref (G 0 0), .int x0, .int x1, .int x2, .ref o] (wsC G cI cL cQ σ π (oc o cL f :: rest)) (some (.int 0)) (pwC G cI cL cQ σ (oc o cL (vp_updL f 0 RES.toInt64) :: rest)) 0 0 := by
  refine met_w (own := R_Law) (by decide) rfl nwl_ok ?_
  intro p e s m below meth c hC hSW htab hB
  have hx := hC.1
  have hb := hC.2.1
  have hl := lv_entry ([.ref (G 0 0), .int x0, .int x1, .int x2, .ref o]) (n := 6) (Nat.le_of_ble_eq_true rfl)
  rw [lg_entry_eq]
  generalize (lg_sl ([.ref (G 0 0), .int x0, .int x1, .int x2, .ref o]) ++ List.replicate (6 - (lg_sl ([.ref (G 0 0), .int x0, .int x1, .int x2, .ref o])).length) Slot.unset).toArray = ls at hl ⊢
  have hl : lv_has ls 6 [(0, .ref (G 0 0)), (1, .int x0), (2, .int x1), (3, .int x2), (4, .ref o)] := hl
  refine lv_aload hx hb d_Law_where_0 (lv_at hl 4 rfl) ?_
  refine lv_iconst (v := 0) hx hb d_Law_where_2 (by decide) ?_
  refine lv_aload_n hx hb d_Law_where_3 rfl (lv_at hl 0 rfl) ?_
  refine lv_iload_n hx hb d_Law_where_4 rfl (lv_at hl 1 rfl) ?_
  refine lv_iload_n hx hb d_Law_where_5 rfl (lv_at hl 2 rfl) ?_
  refine lv_iload_n hx hb d_Law_where_6 rfl (lv_at hl 3 rfl) ?_
  refine kV hC hB _ lkC_ST rfl (c_ST_where σ π x0 x1 x2 RES hR) allw_ok mf_ST_where kw_849 kw_850 kw_848 ⟨rfl, rfl, Nat.le_of_ble_eq_true rfl, Nat.le_of_ble_eq_true rfl⟩ rfl rfl hl.1 (Nat.le_of_ble_eq_true rfl) d_Law_where_7 ⟨Nat.le_of_ble_eq_true rfl, Nat.le_of_ble_eq_true rfl⟩ (fun H locs w hw hB => ?_)
  subst hw
  refine lv_i2l hx hb d_Law_where_10 rfl ?_
  refine as_l rfl hC hB 52 1 lkC_out rfl vin0 d_Law_where_11 setC_out (fun H locs hB => ?_)
  refine lv_goto (tgt := 19) hx hb d_Law_where_12 (by decide) ?_
  refine lv_iconst (v := 0) hx hb d_Law_where_19 (by decide) ?_
  exact ri hC hB ⟨π, hπ, rfl⟩ d_Law_where_20
set_option maxHeartbeats 400000 in
set_option maxRecDepth 100000 in
theorem ht_where (htl : l.stackTraces = false) (σ : SC) (π : PJ) (hπ : RJ π σ) (o : Nat) (f : Nat → Int64) (x0 : Int32) (x1 : Int32) (x2 : Int32) (hR : m_ST_where σ x0 x1 x2 = none) : HM l y_Law_where b_Law_where 6 [(0, 12, 15, 13)] { frames := 8, cells := 1, slots := 6, locals := 135 } D (tyL cI cL cQ) N0 [.ref (G 0 0), .int x0, .int x1, .int x2, .ref o] (wsC G cI cL cQ σ π (oc o cL f :: rest)) (some (.int 1)) (pwC G cI cL cQ σ (oc o cL f :: rest)) 1 6 := by
  refine met_w (own := R_Law) (by decide) rfl nwl_ok ?_
  intro p e s m below meth c hC hSW htab hB
  have hx := hC.1
  have hb := hC.2.1
  have hl := lv_entry ([.ref (G 0 0), .int x0, .int x1, .int x2, .ref o]) (n := 6) (Nat.le_of_ble_eq_true rfl)
  rw [lg_entry_eq]
  generalize (lg_sl ([.ref (G 0 0), .int x0, .int x1, .int x2, .ref o]) ++ List.replicate (6 - (lg_sl ([.ref (G 0 0), .int x0, .int x1, .int x2, .ref o])).length) Slot.unset).toArray = ls at hl ⊢
  have hl : lv_has ls 6 [(0, .ref (G 0 0)), (1, .int x0), (2, .int x1), (3, .int x2), (4, .ref o)] := hl
  have hC2 := cx_to hC (Nat.le_refl s.heap.size)
  have hB2 := bd_s hC hB
  refine lv_aload hx hb d_Law_where_0 (lv_at hl 4 rfl) ?_
  refine lv_iconst (v := 0) hx hb d_Law_where_2 (by decide) ?_
  refine lv_aload_n hx hb d_Law_where_3 rfl (lv_at hl 0 rfl) ?_
  refine lv_iload_n hx hb d_Law_where_4 rfl (lv_at hl 1 rfl) ?_
  refine lv_iload_n hx hb d_Law_where_5 rfl (lv_at hl 2 rfl) ?_
  refine lv_iload_n hx hb d_Law_where_6 rfl (lv_at hl 3 rfl) ?_
  refine kx hC2 hSW hB2 _ lkC_ST rfl (x_ST_where htl σ π x0 x1 x2 hR) allw_ok mf_ST_where kw_849 kw_850 kw_848 ⟨rfl, rfl, Nat.le_of_ble_eq_true rfl, Nat.le_of_ble_eq_true rfl⟩ rfl rfl hl.1 (Nat.le_of_ble_eq_true rfl) d_Law_where_7 ⟨Nat.le_of_ble_eq_true rfl, Nat.le_of_ble_eq_true rfl⟩ (fun q ce H locs hB h1 h2 h3 => ?_)
  refine cth hC2 htab ⟨by decide, by decide⟩ (by decide) kw_382 h1 h2 h3 ?_
  refine lv_astore (i := 5) hx hb d_Law_where_15 hl (by decide) rfl (fun ls hl => ?_)
  refine lv_iconst (v := 1) hx hb d_Law_where_17 (by decide) ?_
  exact ri hC (bd_w hB hC.2.2.2.2.2.2.2.2.1) ⟨π, hπ, rfl⟩ d_Law_where_18
set_option maxHeartbeats 400000 in
set_option maxRecDepth 100000 in
theorem h_name (σ : SC) (π : PJ) (hπ : RJ π σ) (o : Nat) (f : Nat → Int64) (x0 : Int32) (x1 : Int32) (RES : Int32 × SC) (hR : m_ST_name σ x0 x1 = some RES) : HM l y_Law_name b_Law_name 5 [(0, 10, 13, 13)] { frames := 6, cells := 0, slots := 0, locals := 141 } D (tyL cI cL cQ) N0 [.ref (G 0 0), .int x0, .int x1, .ref o] (wsC G cI cL cQ σ π (oc o cL f :: rest)) (some (.int 0)) (pwC G cI cL cQ RES.2 (oc o cL (vp_updL f 0 RES.1.toInt64) :: rest)) 0 0 := by
  refine met_w (own := R_Law) (by decide) rfl nwl_ok ?_
  intro p e s m below meth c hC hSW htab hB
  have hx := hC.1
  have hb := hC.2.1
  have hl := lv_entry ([.ref (G 0 0), .int x0, .int x1, .ref o]) (n := 5) (Nat.le_of_ble_eq_true rfl)
  rw [lg_entry_eq]
  generalize (lg_sl ([.ref (G 0 0), .int x0, .int x1, .ref o]) ++ List.replicate (5 - (lg_sl ([.ref (G 0 0), .int x0, .int x1, .ref o])).length) Slot.unset).toArray = ls at hl ⊢
  have hl : lv_has ls 5 [(0, .ref (G 0 0)), (1, .int x0), (2, .int x1), (3, .ref o)] := hl
  refine lv_aload_n hx hb d_Law_name_0 rfl (lv_at hl 3 rfl) ?_
  refine lv_iconst (v := 0) hx hb d_Law_name_1 (by decide) ?_
  refine lv_aload_n hx hb d_Law_name_2 rfl (lv_at hl 0 rfl) ?_
  refine lv_iload_n hx hb d_Law_name_3 rfl (lv_at hl 1 rfl) ?_
  refine lv_iload_n hx hb d_Law_name_4 rfl (lv_at hl 2 rfl) ?_
  refine kV hC hB _ lkC_ST rfl (c_ST_name σ π x0 x1 RES hR) allw_ok mf_ST_name kw_869 kw_870 kw_868 ⟨rfl, rfl, Nat.le_of_ble_eq_true rfl, Nat.le_of_ble_eq_true rfl⟩ rfl rfl hl.1 (Nat.le_of_ble_eq_true rfl) d_Law_name_5 ⟨Nat.le_of_ble_eq_true rfl, Nat.le_of_ble_eq_true rfl⟩ (fun H locs w hw hB => ?_)
  subst hw
  have hπ := rj_ST_name hπ hR
  refine lv_i2l hx hb d_Law_name_8 rfl ?_
  refine as_l rfl hC hB 52 1 lkC_out rfl vin0 d_Law_name_9 setC_out (fun H locs hB => ?_)
  refine lv_goto (tgt := 17) hx hb d_Law_name_10 (by decide) ?_
  refine lv_iconst (v := 0) hx hb d_Law_name_17 (by decide) ?_
  exact ri hC hB ⟨π, hπ, rfl⟩ d_Law_name_18
set_option maxHeartbeats 400000 in
set_option maxRecDepth 100000 in
theorem ht_name (htl : l.stackTraces = false) (σ : SC) (π : PJ) (hπ : RJ π σ) (o : Nat) (f : Nat → Int64) (x0 : Int32) (x1 : Int32) (hR : m_ST_name σ x0 x1 = none) : HM l y_Law_name b_Law_name 5 [(0, 10, 13, 13)] { frames := 8, cells := 1, slots := 6, locals := 141 } D (tyL cI cL cQ) N0 [.ref (G 0 0), .int x0, .int x1, .ref o] (wsC G cI cL cQ σ π (oc o cL f :: rest)) (some (.int 1)) (pwC G cI cL cQ σ (oc o cL f :: rest)) 1 6 := by
  refine met_w (own := R_Law) (by decide) rfl nwl_ok ?_
  intro p e s m below meth c hC hSW htab hB
  have hx := hC.1
  have hb := hC.2.1
  have hl := lv_entry ([.ref (G 0 0), .int x0, .int x1, .ref o]) (n := 5) (Nat.le_of_ble_eq_true rfl)
  rw [lg_entry_eq]
  generalize (lg_sl ([.ref (G 0 0), .int x0, .int x1, .ref o]) ++ List.replicate (5 - (lg_sl ([.ref (G 0 0), .int x0, .int x1, .ref o])).length) Slot.unset).toArray = ls at hl ⊢
  have hl : lv_has ls 5 [(0, .ref (G 0 0)), (1, .int x0), (2, .int x1), (3, .ref o)] := hl
  have hC2 := cx_to hC (Nat.le_refl s.heap.size)
  have hB2 := bd_s hC hB
  refine lv_aload_n hx hb d_Law_name_0 rfl (lv_at hl 3 rfl) ?_
  refine lv_iconst (v := 0) hx hb d_Law_name_1 (by decide) ?_
  refine lv_aload_n hx hb d_Law_name_2 rfl (lv_at hl 0 rfl) ?_
  refine lv_iload_n hx hb d_Law_name_3 rfl (lv_at hl 1 rfl) ?_
  refine lv_iload_n hx hb d_Law_name_4 rfl (lv_at hl 2 rfl) ?_
  refine kx hC2 hSW hB2 _ lkC_ST rfl (x_ST_name htl σ π x0 x1 hR) allw_ok mf_ST_name kw_869 kw_870 kw_868 ⟨rfl, rfl, Nat.le_of_ble_eq_true rfl, Nat.le_of_ble_eq_true rfl⟩ rfl rfl hl.1 (Nat.le_of_ble_eq_true rfl) d_Law_name_5 ⟨Nat.le_of_ble_eq_true rfl, Nat.le_of_ble_eq_true rfl⟩ (fun q ce H locs hB h1 h2 h3 => ?_)
  refine cth hC2 htab ⟨by decide, by decide⟩ (by decide) kw_382 h1 h2 h3 ?_
  refine lv_astore (i := 4) hx hb d_Law_name_13 hl (by decide) rfl (fun ls hl => ?_)
  refine lv_iconst (v := 1) hx hb d_Law_name_15 (by decide) ?_
  exact ri hC (bd_w hB hC.2.2.2.2.2.2.2.2.1) ⟨π, hπ, rfl⟩ d_Law_name_16
end HP
