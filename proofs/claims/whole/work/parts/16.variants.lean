def m_Variants_count (σ : SC) : Int32 :=
  (m_Row_at σ 12 0)

def m_Variants_isVariant (σ : SC) (x0 : Int32) : Bool :=
  if x0 < 0 then
    false
  else
    if (m_Variants_count σ) ≤ x0 then
      false
    else
      true

def m_Variants_content (σ : SC) (x0 : Int32) : Int64 :=
  (m_Row_longAt σ 15 x0)

def m_Variants_subjectOf (x0 : Int32) (x1 : Int32) (x2 : Int32) : Int32 :=
  ((((x0 * 10) + x1) * 30) + x2)

def lp_Variants_isAt_31 : Nat → SC → Int32 → Int32 → Int32 → Int32 → Int32 → Bool
  | 0, σ, _, _, _, _, _ => false
  | n + 1, σ, v1, v2, v3, v4, v5 =>
    if v5 < 0 then
      true
    else
      if (m_Row_at σ 17 ((v1 * 23) + v5)) = (m_Book_placementAt σ v4) then
        lp_Variants_isAt_31 n σ v1 v2 v3 (m_Book_pageAbove σ v4) (v5 + (-1))
      else
        false

def m_Variants_isAt (σ : SC) (x0 : Int32) (x1 : Int32) : Bool :=
  if (m_Row_at σ 16 x0) = (m_Book_depthAt σ x1) then
    lp_Variants_isAt_31 (((m_Book_depthAt σ x1) - 1).toNatClampNeg + 2) σ x0 x1 (m_Book_depthAt σ x1) x1 ((m_Book_depthAt σ x1) - 1)
  else
    false

def lp_Variants_find_2 : Nat → SC → Int32 → Int32 → Int32 → Int32
  | 0, σ, _, _, _ => 0
  | n + 1, σ, v1, v2, v3 =>
    if (m_Row_at σ 12 1) ≤ v3 then
      (-1)
    else
      if (m_Row_at σ 14 v3) = v1 then
        if (bi (m_Variants_isAt σ v3 v2)) = 0 then
          lp_Variants_find_2 n σ v1 v2 (v3 + 1)
        else
          v3
      else
        lp_Variants_find_2 n σ v1 v2 (v3 + 1)

def m_Variants_find (σ : SC) (x0 : Int32) (x1 : Int32) : Int32 :=
  lp_Variants_find_2 ((m_Row_at σ 12 1).toNatClampNeg + 1) σ x0 x1 0

def m_Variants_addVariant (σ : SC) (x0 : Int32) : Int32 × SC :=
  ((m_Variants_count σ), (m_Row_set (m_Row_set σ 12 0 (((m_Variants_count σ) + 1).toInt64)) 13 (m_Variants_count σ) x0.toInt64))

section SC
variable {l : Launch} {D : va_G} {N0 N1 : Nat} {G : Nat → Nat → Nat} {cI cL cQ : ClassId} {rest : va_W}
set_option maxHeartbeats 400000 in
set_option maxRecDepth 100000 in
theorem c_Variants_count  (σ : SC) (π : PJ)  : CM l y_Variants_count b_Variants_count 1 (some .int) { frames := 1, cells := 0, slots := 0, locals := 21 } D (tyL cI cL cQ) N0 N1 [.ref (G 0 6)] (wsC G cI cL cQ σ π rest) (some (.int (m_Variants_count σ))) (fun w => w = wsC G cI cL cQ σ π rest) 0 0 := by
  generalize hR : m_Variants_count σ = RES
  refine met_of (own := R_Variants) (by decide) rfl nwl_ok ?_
  intro p e s m below meth c hC hin hB
  have hx := hC.1
  have hb := hC.2.1
  have hl := lv_entry ([.ref (G 0 6)]) (n := 1) (Nat.le_of_ble_eq_true rfl)
  rw [lg_entry_eq]
  generalize (lg_sl ([.ref (G 0 6)]) ++ List.replicate (1 - (lg_sl ([.ref (G 0 6)])).length) Slot.unset).toArray = ls at hl ⊢
  have hl : lv_has ls 1 [(0, .ref (G 0 6))] := hl
  rw [m_Variants_count] at hR
  refine lv_aload_n hx hb d_Variants_count_0 rfl (lv_at hl 0 rfl) ?_
  refine gt hC hB _ lkC_Variants rfl i_Variants 1 (by decide) rfl kw_175 rfl d_Variants_count_1 ?_
  refine lv_iconst (v := 0) hx hb d_Variants_count_4 (by decide) ?_
  refine kV hC hB _ (lkC_row (by decide)) rfl (c_Row_at 12 (by decide) σ π 0) allw_ok mf_Row_at kw_233 kw_234 kw_738 ⟨rfl, rfl, Nat.le_of_ble_eq_true rfl, Nat.le_of_ble_eq_true rfl⟩ rfl rfl hl.1 (Nat.le_of_ble_eq_true rfl) d_Variants_count_5 ⟨Nat.le_of_ble_eq_true rfl, Nat.le_of_ble_eq_true rfl⟩ (roK fun H locs hB => ?_)
  subst hR
  exact ri hC hB rfl d_Variants_count_8

set_option maxHeartbeats 400000 in
set_option maxRecDepth 100000 in
theorem c_Variants_isVariant  (σ : SC) (π : PJ) (x0 : Int32) : CM l y_Variants_isVariant b_Variants_isVariant 2 (some .boolean) { frames := 2, cells := 0, slots := 0, locals := 41 } D (tyL cI cL cQ) N0 N1 [.ref (G 0 6), .int x0] (wsC G cI cL cQ σ π rest) (some (.int (bi (m_Variants_isVariant σ x0)))) (fun w => w = wsC G cI cL cQ σ π rest) 0 0 := by
  generalize hR : m_Variants_isVariant σ x0 = RES
  refine met_of (own := R_Variants) (by decide) rfl nwl_ok ?_
  intro p e s m below meth c hC hin hB
  have hx := hC.1
  have hb := hC.2.1
  have hl := lv_entry ([.ref (G 0 6), .int x0]) (n := 2) (Nat.le_of_ble_eq_true rfl)
  rw [lg_entry_eq]
  generalize (lg_sl ([.ref (G 0 6), .int x0]) ++ List.replicate (2 - (lg_sl ([.ref (G 0 6), .int x0])).length) Slot.unset).toArray = ls at hl ⊢
  have hl : lv_has ls 2 [(0, .ref (G 0 6)), (1, .int x0)] := hl
  rw [m_Variants_isVariant] at hR
  refine lv_iload_n hx hb d_Variants_isVariant_0 rfl (lv_at hl 1 rfl) ?_
  refine lv_if_lt (tgt := 16) hx hb d_Variants_isVariant_1 (by decide) (fun c_1 => ?_) (fun c_1 => ?_)
  · rw [if_pos c_1] at hR
    refine lv_iconst (v := 0) hx hb d_Variants_isVariant_16 (by decide) ?_
    subst hR
    exact rz (b := false) hC hB rfl d_Variants_isVariant_17
  · rw [if_neg c_1] at hR
    refine lv_iload_n hx hb d_Variants_isVariant_4 rfl (lv_at hl 1 rfl) ?_
    refine lv_aload_n hx hb d_Variants_isVariant_5 rfl (lv_at hl 0 rfl) ?_
    refine kV hC hB _ lkC_Variants rfl (c_Variants_count σ π) allw_ok mf_Variants_count kw_735 kw_736 kw_734 ⟨rfl, rfl, Nat.le_of_ble_eq_true rfl, Nat.le_of_ble_eq_true rfl⟩ rfl rfl hl.1 (Nat.le_of_ble_eq_true rfl) d_Variants_isVariant_6 ⟨Nat.le_of_ble_eq_true rfl, Nat.le_of_ble_eq_true rfl⟩ (roK fun H locs hB => ?_)
    refine lv_icmp_ge (tgt := 16) hx hb d_Variants_isVariant_9 (by decide) (fun c_2 => ?_) (fun c_2 => ?_)
    · rw [if_pos c_2] at hR
      refine lv_iconst (v := 0) hx hb d_Variants_isVariant_16 (by decide) ?_
      subst hR
      exact rz (b := false) hC hB rfl d_Variants_isVariant_17
    · rw [if_neg c_2] at hR
      refine lv_iconst (v := 1) hx hb d_Variants_isVariant_12 (by decide) ?_
      refine lv_goto (tgt := 17) hx hb d_Variants_isVariant_13 (by decide) ?_
      subst hR
      exact rz (b := true) hC hB rfl d_Variants_isVariant_17

set_option maxHeartbeats 400000 in
set_option maxRecDepth 100000 in
theorem c_Variants_content  (σ : SC) (π : PJ) (x0 : Int32) : CM l y_Variants_content b_Variants_content 2 (some .long) { frames := 1, cells := 0, slots := 0, locals := 21 } D (tyL cI cL cQ) N0 N1 [.ref (G 0 6), .int x0] (wsC G cI cL cQ σ π rest) (some (.long (m_Variants_content σ x0))) (fun w => w = wsC G cI cL cQ σ π rest) 0 0 := by
  generalize hR : m_Variants_content σ x0 = RES
  refine met_of (own := R_Variants) (by decide) rfl nwl_ok ?_
  intro p e s m below meth c hC hin hB
  have hx := hC.1
  have hb := hC.2.1
  have hl := lv_entry ([.ref (G 0 6), .int x0]) (n := 2) (Nat.le_of_ble_eq_true rfl)
  rw [lg_entry_eq]
  generalize (lg_sl ([.ref (G 0 6), .int x0]) ++ List.replicate (2 - (lg_sl ([.ref (G 0 6), .int x0])).length) Slot.unset).toArray = ls at hl ⊢
  have hl : lv_has ls 2 [(0, .ref (G 0 6)), (1, .int x0)] := hl
  rw [m_Variants_content] at hR
  refine lv_aload_n hx hb d_Variants_content_0 rfl (lv_at hl 0 rfl) ?_
  refine gt hC hB _ lkC_Variants rfl i_Variants 4 (by decide) rfl kw_178 rfl d_Variants_content_1 ?_
  refine lv_iload_n hx hb d_Variants_content_4 rfl (lv_at hl 1 rfl) ?_
  refine kV hC hB _ (lkC_row (by decide)) rfl (c_Row_longAt 15 (by decide) σ π x0) allw_ok mf_Row_longAt kw_296 kw_297 kw_784 ⟨rfl, rfl, Nat.le_of_ble_eq_true rfl, Nat.le_of_ble_eq_true rfl⟩ rfl rfl hl.1 (Nat.le_of_ble_eq_true rfl) d_Variants_content_5 ⟨Nat.le_of_ble_eq_true rfl, Nat.le_of_ble_eq_true rfl⟩ (roK fun H locs hB => ?_)
  subst hR
  exact rl hC hB rfl d_Variants_content_8

set_option maxHeartbeats 400000 in
set_option maxRecDepth 100000 in
theorem c_Variants_subjectOf  (σ : SC) (π : PJ) (x0 : Int32) (x1 : Int32) (x2 : Int32) : CM l y_Variants_subjectOf b_Variants_subjectOf 3 (some .int) { frames := 0, cells := 0, slots := 0, locals := 0 } D (tyL cI cL cQ) N0 N1 [.int x0, .int x1, .int x2] (wsC G cI cL cQ σ π rest) (some (.int (m_Variants_subjectOf x0 x1 x2))) (fun w => w = wsC G cI cL cQ σ π rest) 0 0 := by
  generalize hR : m_Variants_subjectOf x0 x1 x2 = RES
  refine met_of (own := R_Variants) (by decide) rfl nwl_ok ?_
  intro p e s m below meth c hC hin hB
  have hx := hC.1
  have hb := hC.2.1
  have hl := lv_entry ([.int x0, .int x1, .int x2]) (n := 3) (Nat.le_of_ble_eq_true rfl)
  rw [lg_entry_eq]
  generalize (lg_sl ([.int x0, .int x1, .int x2]) ++ List.replicate (3 - (lg_sl ([.int x0, .int x1, .int x2])).length) Slot.unset).toArray = ls at hl ⊢
  have hl : lv_has ls 3 [(0, .int x0), (1, .int x1), (2, .int x2)] := hl
  rw [m_Variants_subjectOf] at hR
  refine lv_iload_n hx hb d_Variants_subjectOf_0 rfl (lv_at hl 0 rfl) ?_
  refine lv_bipush (v := 10) hx hb d_Variants_subjectOf_1 (by decide) ?_
  refine lv_imul hx hb d_Variants_subjectOf_3 ?_
  refine lv_iload_n hx hb d_Variants_subjectOf_4 rfl (lv_at hl 1 rfl) ?_
  refine lv_iadd hx hb d_Variants_subjectOf_5 ?_
  refine lv_bipush (v := 30) hx hb d_Variants_subjectOf_6 (by decide) ?_
  refine lv_imul hx hb d_Variants_subjectOf_8 ?_
  refine lv_iload_n hx hb d_Variants_subjectOf_9 rfl (lv_at hl 2 rfl) ?_
  refine lv_iadd hx hb d_Variants_subjectOf_10 ?_
  subst hR
  exact ri hC hB rfl d_Variants_subjectOf_11

set_option maxHeartbeats 400000 in
set_option maxRecDepth 100000 in
theorem w_Variants_isAt_31 {p : Program} {e : Env} {s : State} {m : MethodId} {args : Array Value} {below : List Frame} {meth : Method} {c : Code} {RES : Bool}  (σ : SC) (π : PJ) (hC : cx D classes (tyL cI cL cQ) NWL ALLW N1 p s m args meth c b_Variants_isAt 6 (some .boolean) R_Variants) :
    ∀ (n : Nat) (v1 : Int32) (v2 : Int32) (v3 : Int32) (v4 : Int32) (v5 : Int32), dnI n v5 → lp_Variants_isAt_31 n σ  v1 v2 v3 v4 v5 = RES → ∀ (H : Heap) (locs : List Loc), bd D classes N0 N1 (wsC G cI cL cQ σ π rest) s H locs → ∀ (ls : Array Slot), lv_has ls 6 [(0, .ref (G 0 6)), (1, .int v1), (2, .int v2), (3, .int v3), (4, .int v4), (5, .int v5)] → W p l e { frames := 2, cells := 0, slots := 0, locals := 42 } s m args below meth c H locs 0 0 (MQ below (qx D classes N0 N1 (some (.int (bi RES))) (fun w => w = wsC G cI cL cQ σ π rest)) args s 0 0 (ga N1)) (F0 m 31 ls []) := by
  have hx := hC.1
  have hb := hC.2.1
  intro n
  induction n with
  | zero =>
    intro v1 v2 v3 v4 v5 hI
    exact absurd hI dn_zero
  | succ n ih =>
    intro v1 v2 v3 v4 v5 hI hR H locs hB ls hl
    rw [lp_Variants_isAt_31] at hR
    refine lv_iload hx hb d_Variants_isAt_31 (lv_at hl 5 rfl) ?_
    refine lv_if_lt (tgt := 81) hx hb d_Variants_isAt_33 (by decide) (fun c_1 => ?_) (fun c_1 => ?_)
    · rw [if_pos c_1] at hR
      refine lv_iconst (v := 1) hx hb d_Variants_isAt_81 (by decide) ?_
      subst hR
      exact rz (b := true) hC hB rfl d_Variants_isAt_82
    · rw [if_neg c_1] at hR
      refine lv_aload_n hx hb d_Variants_isAt_36 rfl (lv_at hl 0 rfl) ?_
      refine gt hC hB _ lkC_Variants rfl i_Variants 6 (by decide) rfl kw_180 rfl d_Variants_isAt_37 ?_
      refine lv_iload_n hx hb d_Variants_isAt_40 rfl (lv_at hl 1 rfl) ?_
      refine lv_bipush (v := 23) hx hb d_Variants_isAt_41 (by decide) ?_
      refine lv_imul hx hb d_Variants_isAt_43 ?_
      refine lv_iload hx hb d_Variants_isAt_44 (lv_at hl 5 rfl) ?_
      refine lv_iadd hx hb d_Variants_isAt_46 ?_
      refine kV hC hB _ (lkC_row (by decide)) rfl (c_Row_at 17 (by decide) σ π ((v1 * 23) + v5)) allw_ok mf_Row_at kw_233 kw_234 kw_738 ⟨rfl, rfl, Nat.le_of_ble_eq_true rfl, Nat.le_of_ble_eq_true rfl⟩ rfl rfl hl.1 (Nat.le_of_ble_eq_true rfl) d_Variants_isAt_47 ⟨Nat.le_of_ble_eq_true rfl, Nat.le_of_ble_eq_true rfl⟩ (roK fun H locs hB => ?_)
      refine lv_aload_n hx hb d_Variants_isAt_50 rfl (lv_at hl 0 rfl) ?_
      refine gt hC hB _ lkC_Variants rfl i_Variants 0 (by decide) rfl kw_174 rfl d_Variants_isAt_51 ?_
      refine lv_iload hx hb d_Variants_isAt_54 (lv_at hl 4 rfl) ?_
      refine kV hC hB _ lkC_Book rfl (c_Book_placementAt σ π v4) allw_ok mf_Book_placementAt kw_237 kw_238 kw_778 ⟨rfl, rfl, Nat.le_of_ble_eq_true rfl, Nat.le_of_ble_eq_true rfl⟩ rfl rfl hl.1 (Nat.le_of_ble_eq_true rfl) d_Variants_isAt_56 ⟨Nat.le_of_ble_eq_true rfl, Nat.le_of_ble_eq_true rfl⟩ (roK fun H locs hB => ?_)
      refine lv_icmp_eq (tgt := 64) hx hb d_Variants_isAt_59 (by decide) (fun c_2 => ?_) (fun c_2 => ?_)
      · rw [if_pos c_2] at hR
        refine lv_aload_n hx hb d_Variants_isAt_64 rfl (lv_at hl 0 rfl) ?_
        refine gt hC hB _ lkC_Variants rfl i_Variants 0 (by decide) rfl kw_174 rfl d_Variants_isAt_65 ?_
        refine lv_iload hx hb d_Variants_isAt_68 (lv_at hl 4 rfl) ?_
        refine kV hC hB _ lkC_Book rfl (c_Book_pageAbove σ π v4) allw_ok mf_Book_pageAbove kw_245 kw_246 kw_779 ⟨rfl, rfl, Nat.le_of_ble_eq_true rfl, Nat.le_of_ble_eq_true rfl⟩ rfl rfl hl.1 (Nat.le_of_ble_eq_true rfl) d_Variants_isAt_70 ⟨Nat.le_of_ble_eq_true rfl, Nat.le_of_ble_eq_true rfl⟩ (roK fun H locs hB => ?_)
        refine lv_istore (lv' := [(4, .int (m_Book_pageAbove σ v4)), (0, .ref (G 0 6)), (1, .int v1), (2, .int v2), (3, .int v3), (5, .int v5)]) hx hb d_Variants_isAt_73 hl (by decide) rfl (fun ls hl => ?_)
        refine lv_iinc (v := (v5 + (-1))) (lv' := [(5, .int (v5 + (-1))), (4, .int (m_Book_pageAbove σ v4)), (0, .ref (G 0 6)), (1, .int v1), (2, .int v2), (3, .int v3)]) hx hb d_Variants_isAt_75 hl (k := 5) rfl rfl (by decide) rfl (fun ls hl => ?_)
        refine lv_goto (tgt := 31) hx hb d_Variants_isAt_78 (by decide) ?_
        exact ih v1 v2 v3 (m_Book_pageAbove σ v4) (v5 + (-1)) (dn_step hI (by assumption)) hR _ _ hB ls (lv_sub hl [2, 3, 4, 5, 1, 0] rfl)
      · rw [if_neg c_2] at hR
        refine lv_iconst (v := 0) hx hb d_Variants_isAt_62 (by decide) ?_
        subst hR
        exact rz (b := false) hC hB rfl d_Variants_isAt_63

set_option maxHeartbeats 400000 in
set_option maxRecDepth 100000 in
theorem c_Variants_isAt  (σ : SC) (π : PJ) (x0 : Int32) (x1 : Int32) : CM l y_Variants_isAt b_Variants_isAt 6 (some .boolean) { frames := 2, cells := 0, slots := 0, locals := 42 } D (tyL cI cL cQ) N0 N1 [.ref (G 0 6), .int x0, .int x1] (wsC G cI cL cQ σ π rest) (some (.int (bi (m_Variants_isAt σ x0 x1)))) (fun w => w = wsC G cI cL cQ σ π rest) 0 0 := by
  generalize hR : m_Variants_isAt σ x0 x1 = RES
  refine met_of (own := R_Variants) (by decide) rfl nwl_ok ?_
  intro p e s m below meth c hC hin hB
  have hx := hC.1
  have hb := hC.2.1
  have hl := lv_entry ([.ref (G 0 6), .int x0, .int x1]) (n := 6) (Nat.le_of_ble_eq_true rfl)
  rw [lg_entry_eq]
  generalize (lg_sl ([.ref (G 0 6), .int x0, .int x1]) ++ List.replicate (6 - (lg_sl ([.ref (G 0 6), .int x0, .int x1])).length) Slot.unset).toArray = ls at hl ⊢
  have hl : lv_has ls 6 [(0, .ref (G 0 6)), (1, .int x0), (2, .int x1)] := hl
  rw [m_Variants_isAt] at hR
  refine lv_aload_n hx hb d_Variants_isAt_0 rfl (lv_at hl 0 rfl) ?_
  refine gt hC hB _ lkC_Variants rfl i_Variants 0 (by decide) rfl kw_174 rfl d_Variants_isAt_1 ?_
  refine lv_iload_n hx hb d_Variants_isAt_4 rfl (lv_at hl 2 rfl) ?_
  refine kV hC hB _ lkC_Book rfl (c_Book_depthAt σ π x1) allw_ok mf_Book_depthAt kw_253 kw_254 kw_777 ⟨rfl, rfl, Nat.le_of_ble_eq_true rfl, Nat.le_of_ble_eq_true rfl⟩ rfl rfl hl.1 (Nat.le_of_ble_eq_true rfl) d_Variants_isAt_5 ⟨Nat.le_of_ble_eq_true rfl, Nat.le_of_ble_eq_true rfl⟩ (roK fun H locs hB => ?_)
  refine lv_istore_n (lv' := [(3, .int (m_Book_depthAt σ x1)), (0, .ref (G 0 6)), (1, .int x0), (2, .int x1)]) hx hb d_Variants_isAt_8 rfl hl (by decide) rfl (fun ls hl => ?_)
  refine lv_aload_n hx hb d_Variants_isAt_9 rfl (lv_at hl 1 rfl) ?_
  refine gt hC hB _ lkC_Variants rfl i_Variants 5 (by decide) rfl kw_179 rfl d_Variants_isAt_10 ?_
  refine lv_iload_n hx hb d_Variants_isAt_13 rfl (lv_at hl 2 rfl) ?_
  refine kV hC hB _ (lkC_row (by decide)) rfl (c_Row_at 16 (by decide) σ π x0) allw_ok mf_Row_at kw_233 kw_234 kw_738 ⟨rfl, rfl, Nat.le_of_ble_eq_true rfl, Nat.le_of_ble_eq_true rfl⟩ rfl rfl hl.1 (Nat.le_of_ble_eq_true rfl) d_Variants_isAt_14 ⟨Nat.le_of_ble_eq_true rfl, Nat.le_of_ble_eq_true rfl⟩ (roK fun H locs hB => ?_)
  refine lv_iload_n hx hb d_Variants_isAt_17 rfl (lv_at hl 0 rfl) ?_
  refine lv_icmp_eq (tgt := 23) hx hb d_Variants_isAt_18 (by decide) (fun c_1 => ?_) (fun c_1 => ?_)
  · rw [if_pos c_1] at hR
    refine lv_iload_n hx hb d_Variants_isAt_23 rfl (lv_at hl 3 rfl) ?_
    refine lv_istore (lv' := [(4, .int x1), (3, .int (m_Book_depthAt σ x1)), (0, .ref (G 0 6)), (1, .int x0), (2, .int x1)]) hx hb d_Variants_isAt_24 hl (by decide) rfl (fun ls hl => ?_)
    refine lv_iload_n hx hb d_Variants_isAt_26 rfl (lv_at hl 1 rfl) ?_
    refine lv_iconst (v := 1) hx hb d_Variants_isAt_27 (by decide) ?_
    refine lv_isub hx hb d_Variants_isAt_28 ?_
    refine lv_istore (lv' := [(5, .int ((m_Book_depthAt σ x1) - 1)), (4, .int x1), (3, .int (m_Book_depthAt σ x1)), (0, .ref (G 0 6)), (1, .int x0), (2, .int x1)]) hx hb d_Variants_isAt_29 hl (by decide) rfl (fun ls hl => ?_)
    exact w_Variants_isAt_31  σ π hC (((m_Book_depthAt σ x1) - 1).toNatClampNeg + 2) x0 x1 (m_Book_depthAt σ x1) x1 ((m_Book_depthAt σ x1) - 1) (dn_init _) hR _ _ hB ls (lv_sub hl [3, 4, 5, 2, 1, 0] rfl)
  · rw [if_neg c_1] at hR
    refine lv_iconst (v := 0) hx hb d_Variants_isAt_21 (by decide) ?_
    subst hR
    exact rz (b := false) hC hB rfl d_Variants_isAt_22

set_option maxHeartbeats 400000 in
set_option maxRecDepth 100000 in
theorem w_Variants_find_2 {p : Program} {e : Env} {s : State} {m : MethodId} {args : Array Value} {below : List Frame} {meth : Method} {c : Code} {RES : Int32}  (σ : SC) (π : PJ) (hC : cx D classes (tyL cI cL cQ) NWL ALLW N1 p s m args meth c b_Variants_find 4 (some .int) R_Variants) :
    ∀ (n : Nat) (v1 : Int32) (v2 : Int32) (v3 : Int32), upI n (m_Row_at σ 12 1) v3 → lp_Variants_find_2 n σ  v1 v2 v3 = RES → ∀ (H : Heap) (locs : List Loc), bd D classes N0 N1 (wsC G cI cL cQ σ π rest) s H locs → ∀ (ls : Array Slot), lv_has ls 4 [(0, .ref (G 0 6)), (1, .int v1), (2, .int v2), (3, .int v3)] → W p l e { frames := 3, cells := 0, slots := 0, locals := 67 } s m args below meth c H locs 0 0 (MQ below (qx D classes N0 N1 (some (.int RES)) (fun w => w = wsC G cI cL cQ σ π rest)) args s 0 0 (ga N1)) (F0 m 2 ls []) := by
  have hx := hC.1
  have hb := hC.2.1
  intro n
  induction n with
  | zero =>
    intro v1 v2 v3 hI
    exact absurd hI up_zero
  | succ n ih =>
    intro v1 v2 v3 hI hR H locs hB ls hl
    rw [lp_Variants_find_2] at hR
    refine lv_iload_n hx hb d_Variants_find_2 rfl (lv_at hl 3 rfl) ?_
    refine lv_aload_n hx hb d_Variants_find_3 rfl (lv_at hl 0 rfl) ?_
    refine gt hC hB _ lkC_Variants rfl i_Variants 1 (by decide) rfl kw_175 rfl d_Variants_find_4 ?_
    refine lv_iconst (v := 1) hx hb d_Variants_find_7 (by decide) ?_
    refine kV hC hB _ (lkC_row (by decide)) rfl (c_Row_at 12 (by decide) σ π 1) allw_ok mf_Row_at kw_233 kw_234 kw_738 ⟨rfl, rfl, Nat.le_of_ble_eq_true rfl, Nat.le_of_ble_eq_true rfl⟩ rfl rfl hl.1 (Nat.le_of_ble_eq_true rfl) d_Variants_find_8 ⟨Nat.le_of_ble_eq_true rfl, Nat.le_of_ble_eq_true rfl⟩ (roK fun H locs hB => ?_)
    refine lv_icmp_ge (tgt := 43) hx hb d_Variants_find_11 (by decide) (fun c_1 => ?_) (fun c_1 => ?_)
    · rw [if_pos c_1] at hR
      refine lv_iconst (v := (-1)) hx hb d_Variants_find_43 (by decide) ?_
      subst hR
      exact ri hC hB rfl d_Variants_find_44
    · rw [if_neg c_1] at hR
      refine lv_aload_n hx hb d_Variants_find_14 rfl (lv_at hl 0 rfl) ?_
      refine gt hC hB _ lkC_Variants rfl i_Variants 3 (by decide) rfl kw_177 rfl d_Variants_find_15 ?_
      refine lv_iload_n hx hb d_Variants_find_18 rfl (lv_at hl 3 rfl) ?_
      refine kV hC hB _ (lkC_row (by decide)) rfl (c_Row_at 14 (by decide) σ π v3) allw_ok mf_Row_at kw_233 kw_234 kw_738 ⟨rfl, rfl, Nat.le_of_ble_eq_true rfl, Nat.le_of_ble_eq_true rfl⟩ rfl rfl hl.1 (Nat.le_of_ble_eq_true rfl) d_Variants_find_19 ⟨Nat.le_of_ble_eq_true rfl, Nat.le_of_ble_eq_true rfl⟩ (roK fun H locs hB => ?_)
      refine lv_iload_n hx hb d_Variants_find_22 rfl (lv_at hl 1 rfl) ?_
      refine lv_icmp_ne (tgt := 37) hx hb d_Variants_find_23 (by decide) (fun c_2 => ?_) (fun c_2 => ?_)
      · rw [if_neg c_2] at hR
        refine lv_iinc (v := (v3 + 1)) (lv' := [(3, .int (v3 + 1)), (0, .ref (G 0 6)), (1, .int v1), (2, .int v2)]) hx hb d_Variants_find_37 hl (k := 3) rfl rfl (by decide) rfl (fun ls hl => ?_)
        refine lv_goto (tgt := 2) hx hb d_Variants_find_40 (by decide) ?_
        exact ih v1 v2 (v3 + 1) (up_step hI (by assumption)) hR _ _ hB ls (lv_sub hl [1, 2, 3, 0] rfl)
      · rw [if_pos c_2] at hR
        refine lv_aload_n hx hb d_Variants_find_26 rfl (lv_at hl 0 rfl) ?_
        refine lv_iload_n hx hb d_Variants_find_27 rfl (lv_at hl 3 rfl) ?_
        refine lv_iload_n hx hb d_Variants_find_28 rfl (lv_at hl 2 rfl) ?_
        refine kV hC hB _ lkC_Variants rfl (c_Variants_isAt σ π v3 v2) allw_ok mf_Variants_isAt kw_775 ks_24 kw_773 ⟨rfl, rfl, Nat.le_of_ble_eq_true rfl, Nat.le_of_ble_eq_true rfl⟩ rfl rfl hl.1 (Nat.le_of_ble_eq_true rfl) d_Variants_find_29 ⟨Nat.le_of_ble_eq_true rfl, Nat.le_of_ble_eq_true rfl⟩ (roK fun H locs hB => ?_)
        refine lv_if_eq (tgt := 37) hx hb d_Variants_find_32 (by decide) (fun c_3 => ?_) (fun c_3 => ?_)
        · rw [if_pos c_3] at hR
          refine lv_iinc (v := (v3 + 1)) (lv' := [(3, .int (v3 + 1)), (0, .ref (G 0 6)), (1, .int v1), (2, .int v2)]) hx hb d_Variants_find_37 hl (k := 3) rfl rfl (by decide) rfl (fun ls hl => ?_)
          refine lv_goto (tgt := 2) hx hb d_Variants_find_40 (by decide) ?_
          exact ih v1 v2 (v3 + 1) (up_step hI (by assumption)) hR _ _ hB ls (lv_sub hl [1, 2, 3, 0] rfl)
        · rw [if_neg c_3] at hR
          refine lv_iload_n hx hb d_Variants_find_35 rfl (lv_at hl 3 rfl) ?_
          subst hR
          exact ri hC hB rfl d_Variants_find_36

set_option maxHeartbeats 400000 in
set_option maxRecDepth 100000 in
theorem c_Variants_find  (σ : SC) (π : PJ) (x0 : Int32) (x1 : Int32) : CM l y_Variants_find b_Variants_find 4 (some .int) { frames := 3, cells := 0, slots := 0, locals := 67 } D (tyL cI cL cQ) N0 N1 [.ref (G 0 6), .int x0, .int x1] (wsC G cI cL cQ σ π rest) (some (.int (m_Variants_find σ x0 x1))) (fun w => w = wsC G cI cL cQ σ π rest) 0 0 := by
  generalize hR : m_Variants_find σ x0 x1 = RES
  refine met_of (own := R_Variants) (by decide) rfl nwl_ok ?_
  intro p e s m below meth c hC hin hB
  have hx := hC.1
  have hb := hC.2.1
  have hl := lv_entry ([.ref (G 0 6), .int x0, .int x1]) (n := 4) (Nat.le_of_ble_eq_true rfl)
  rw [lg_entry_eq]
  generalize (lg_sl ([.ref (G 0 6), .int x0, .int x1]) ++ List.replicate (4 - (lg_sl ([.ref (G 0 6), .int x0, .int x1])).length) Slot.unset).toArray = ls at hl ⊢
  have hl : lv_has ls 4 [(0, .ref (G 0 6)), (1, .int x0), (2, .int x1)] := hl
  rw [m_Variants_find] at hR
  refine lv_iconst (v := 0) hx hb d_Variants_find_0 (by decide) ?_
  refine lv_istore_n (lv' := [(3, .int 0), (0, .ref (G 0 6)), (1, .int x0), (2, .int x1)]) hx hb d_Variants_find_1 rfl hl (by decide) rfl (fun ls hl => ?_)
  exact w_Variants_find_2  σ π hC ((m_Row_at σ 12 1).toNatClampNeg + 1) x0 x1 0 (up_init _) hR _ _ hB ls (lv_sub hl [1, 2, 3, 0] rfl)

set_option maxHeartbeats 400000 in
set_option maxRecDepth 100000 in
theorem c_Variants_addVariant  (σ : SC) (π : PJ) (hπ : RJ π σ) (x0 : Int32) : CM l y_Variants_addVariant b_Variants_addVariant 3 (some .int) { frames := 4, cells := 2, slots := 8, locals := 87 } D (tyL cI cL cQ) N0 N0 [.ref (G 0 6), .int x0] (wsC G cI cL cQ σ π rest) (some (.int ((m_Variants_addVariant σ x0).1))) (pwC G cI cL cQ ((m_Variants_addVariant σ x0).2) rest) 2 8 := by
  generalize hR : m_Variants_addVariant σ x0 = RES
  obtain ⟨RV, RS⟩ := RES
  dsimp only
  refine met_of (own := R_Variants) (by decide) rfl nwl_ok ?_
  intro p e s m below meth c hC hin hB
  have hx := hC.1
  have hb := hC.2.1
  have hl := lv_entry ([.ref (G 0 6), .int x0]) (n := 3) (Nat.le_of_ble_eq_true rfl)
  rw [lg_entry_eq]
  generalize (lg_sl ([.ref (G 0 6), .int x0]) ++ List.replicate (3 - (lg_sl ([.ref (G 0 6), .int x0])).length) Slot.unset).toArray = ls at hl ⊢
  have hl : lv_has ls 3 [(0, .ref (G 0 6)), (1, .int x0)] := hl
  rw [m_Variants_addVariant] at hR
  refine lv_aload_n hx hb d_Variants_addVariant_0 rfl (lv_at hl 0 rfl) ?_
  refine kV hC hB _ lkC_Variants rfl (c_Variants_count σ π) allw_ok mf_Variants_count kw_735 kw_736 kw_734 ⟨rfl, rfl, Nat.le_of_ble_eq_true rfl, Nat.le_of_ble_eq_true rfl⟩ rfl rfl hl.1 (Nat.le_of_ble_eq_true rfl) d_Variants_addVariant_1 ⟨Nat.le_of_ble_eq_true rfl, Nat.le_of_ble_eq_true rfl⟩ (roK fun H locs hB => ?_)
  refine lv_istore_n (lv' := [(2, .int (m_Variants_count σ)), (0, .ref (G 0 6)), (1, .int x0)]) hx hb d_Variants_addVariant_4 rfl hl (by decide) rfl (fun ls hl => ?_)
  refine lv_aload_n hx hb d_Variants_addVariant_5 rfl (lv_at hl 1 rfl) ?_
  refine gt hC hB _ lkC_Variants rfl i_Variants 1 (by decide) rfl kw_175 rfl d_Variants_addVariant_6 ?_
  refine lv_iconst (v := 0) hx hb d_Variants_addVariant_9 (by decide) ?_
  refine lv_iload_n hx hb d_Variants_addVariant_10 rfl (lv_at hl 0 rfl) ?_
  refine lv_iconst (v := 1) hx hb d_Variants_addVariant_11 (by decide) ?_
  refine lv_iadd hx hb d_Variants_addVariant_12 ?_
  refine lv_i2l hx hb d_Variants_addVariant_13 rfl ?_
  refine kV hC hB _ (lkC_row (by decide)) rfl (c_Row_set 12 (by decide) σ π hπ 0 (((m_Variants_count σ) + 1).toInt64)) allw_ok mf_Row_set kw_292 kw_293 kw_745 ⟨rfl, rfl, Nat.le_of_ble_eq_true rfl, Nat.le_of_ble_eq_true rfl⟩ rfl rfl hl.1 (Nat.le_of_ble_eq_true rfl) d_Variants_addVariant_14 ⟨Nat.le_of_ble_eq_true rfl, Nat.le_of_ble_eq_true rfl⟩ (fun H locs w hw hB => ?_)
  obtain ⟨π, hπ, rfl⟩ := hw
  refine lv_aload_n hx hb d_Variants_addVariant_17 rfl (lv_at hl 1 rfl) ?_
  refine gt hC hB _ lkC_Variants rfl i_Variants 2 (by decide) rfl kw_176 rfl d_Variants_addVariant_18 ?_
  refine lv_iload_n hx hb d_Variants_addVariant_21 rfl (lv_at hl 0 rfl) ?_
  refine lv_iload_n hx hb d_Variants_addVariant_22 rfl (lv_at hl 2 rfl) ?_
  refine lv_i2l hx hb d_Variants_addVariant_23 rfl ?_
  refine kV hC hB _ (lkC_row (by decide)) rfl (c_Row_set 13 (by decide) (m_Row_set σ 12 0 (((m_Variants_count σ) + 1).toInt64)) π hπ (m_Variants_count σ) x0.toInt64) allw_ok mf_Row_set kw_292 kw_293 kw_745 ⟨rfl, rfl, Nat.le_of_ble_eq_true rfl, Nat.le_of_ble_eq_true rfl⟩ rfl rfl hl.1 (Nat.le_of_ble_eq_true rfl) d_Variants_addVariant_24 ⟨Nat.le_of_ble_eq_true rfl, Nat.le_of_ble_eq_true rfl⟩ (fun H locs w hw hB => ?_)
  obtain ⟨π, hπ, rfl⟩ := hw
  refine lv_iload_n hx hb d_Variants_addVariant_27 rfl (lv_at hl 0 rfl) ?_
  obtain ⟨rfl, rfl⟩ := Prod.mk.inj hR
  refine W.widen (k := 2) (n := 8) (Nat.le_of_ble_eq_true rfl) (Nat.le_of_ble_eq_true rfl) ?_
  exact ri hC hB ⟨π, hπ, rfl⟩ d_Variants_addVariant_28
end SC
