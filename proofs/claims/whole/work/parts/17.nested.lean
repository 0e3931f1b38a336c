def lp_Variants_nearest_35 (K : SC → Int32 → Int32 → Int32 → Int32 → Int32 → Int32 → Int32) : Nat → SC → Int32 → Int32 → Int32 → Int32 → Int32 → Int32 → Int32 → Int32 → Int32 → Int32
  | 0, σ, _, _, _, _, _, _, _, _, _ => 0
  | n + 1, σ, v1, v2, v3, v4, v5, v6, v7, v8, v9 =>
    if 24 ≤ v9 then
      K σ v1 v2 v3 v4 (m_Row_at σ 13 v5) (v6 + 1)
    else
      if v8 = (-1) then
        K σ v1 v2 v3 v4 (m_Row_at σ 13 v5) (v6 + 1)
      else
        if (m_Variants_find σ v7 v8) = (-1) then
          lp_Variants_nearest_35 K n σ v1 v2 v3 v4 v5 v6 v7 (m_Book_pageAbove σ v8) (v9 + 1)
        else
          (m_Variants_find σ v7 v8)

def lp_Variants_nearest_6 : Nat → SC → Int32 → Int32 → Int32 → Int32 → Int32 → Int32 → Int32
  | 0, σ, _, _, _, _, _, _ => 0
  | n + 1, σ, v1, v2, v3, v4, v5, v6 =>
    if 10 ≤ v6 then
      (-1)
    else
      if v5 = (-1) then
        (-1)
      else
        lp_Variants_nearest_35 (lp_Variants_nearest_6 n) ((24 : Int32).toNatClampNeg + 1) σ v1 v2 v3 v4 v5 v6 (m_Variants_subjectOf v1 v5 v4) v3 0

def m_Variants_nearest (σ : SC) (x0 : Int32) (x1 : Int32) (x2 : Int32) (x3 : Int32) : Int32 :=
  lp_Variants_nearest_6 ((10 : Int32).toNatClampNeg + 1) σ x0 x1 x2 x3 x1 0

def lp_Book_lay_49 (K : SC → Int32 → Int32 → SC) : Nat → SC → Int32 → Int32 → Int32 → Int32 → SC
  | 0, σ, _, _, _, _ => σ
  | n + 1, σ, v1, v2, v3, v4 =>
    if 24 ≤ v4 then
      if v3 = (-1) then
        σ
      else
        K ((m_Book_addPage σ (m_Sheets_sheetOf σ v3) v3 v1 ((m_Book_depthAt σ v1) + 1)).2) ((m_Book_addPage σ (m_Sheets_sheetOf σ v3) v3 v1 ((m_Book_depthAt σ v1) + 1)).1) (v2 + 1)
    else
      if v3 = (-1) then
        if v1 ≤ 0 then
          if v3 = (-1) then
            σ
          else
            K ((m_Book_addPage σ (m_Sheets_sheetOf σ v3) v3 v1 ((m_Book_depthAt σ v1) + 1)).2) ((m_Book_addPage σ (m_Sheets_sheetOf σ v3) v3 v1 ((m_Book_depthAt σ v1) + 1)).1) (v2 + 1)
        else
          lp_Book_lay_49 K n σ (m_Book_pageAbove σ v1) v2 (m_Sheets_nextOf σ (m_Book_placementAt σ v1)) (v4 + 1)
      else
        if v3 = (-1) then
          σ
        else
          K ((m_Book_addPage σ (m_Sheets_sheetOf σ v3) v3 v1 ((m_Book_depthAt σ v1) + 1)).2) ((m_Book_addPage σ (m_Sheets_sheetOf σ v3) v3 v1 ((m_Book_depthAt σ v1) + 1)).1) (v2 + 1)

def lp_Book_lay_26 : Nat → SC → Int32 → Int32 → SC
  | 0, σ, _, _ => σ
  | n + 1, σ, v1, v2 =>
    if 300 ≤ v2 then
      σ
    else
      lp_Book_lay_49 (lp_Book_lay_26 n) ((24 : Int32).toNatClampNeg + 1) σ v1 v2 (m_Sheets_firstOn σ (m_Book_sheetAt σ v1)) 0

def m_Book_lay (σ : SC) : SC :=
  lp_Book_lay_26 ((300 : Int32).toNatClampNeg + 1) ((m_Book_addPage (zn (m_Arrays_fillI σ 5 0) 2 0) 0 (-1) (-1) 0).2) 0 0

section SC
variable {l : Launch} {D : va_G} {N0 N1 : Nat} {G : Nat → Nat → Nat} {cI cL cQ : ClassId} {rest : va_W}
set_option maxHeartbeats 400000 in
set_option maxRecDepth 100000 in
theorem w_Variants_nearest_35 {p : Program} {e : Env} {s : State} {m : MethodId} {args : Array Value} {below : List Frame} {meth : Method} {c : Code} {RES : Int32} (K : SC → Int32 → Int32 → Int32 → Int32 → Int32 → Int32 → Int32)  (σ : SC) (π : PJ) (hC : cx D classes (tyL cI cL cQ) NWL ALLW N1 p s m args meth c b_Variants_nearest 11 (some .int) R_Variants) {nO : Nat} (hK : ∀ (v1 : Int32) (v2 : Int32) (v3 : Int32) (v4 : Int32) (v5 : Int32) (v6 : Int32), upI nO (10 : Int32) v6 → K σ  v1 v2 v3 v4 v5 v6 = RES → ∀ (H : Heap) (locs : List Loc), bd D classes N0 N1 (wsC G cI cL cQ σ π rest) s H locs → ∀ (ls : Array Slot), lv_has ls 11 [(0, .ref (G 0 6)), (1, .int v1), (2, .int v2), (3, .int v3), (4, .int v4), (5, .int v5), (6, .int v6)] → W p l e { frames := 4, cells := 0, slots := 0, locals := 90 } s m args below meth c H locs 0 0 (MQ below (qx D classes N0 N1 (some (.int RES)) (fun w => w = wsC G cI cL cQ σ π rest)) args s 0 0 (ga N1)) (F0 m 6 ls [])) :
    ∀ (n : Nat) (v1 : Int32) (v2 : Int32) (v3 : Int32) (v4 : Int32) (v5 : Int32) (v6 : Int32) (v7 : Int32) (v8 : Int32) (v9 : Int32), (upI n (24 : Int32) v9 ∧ upI nO (10 : Int32) (v6 + 1)) → lp_Variants_nearest_35 K n σ  v1 v2 v3 v4 v5 v6 v7 v8 v9 = RES → ∀ (H : Heap) (locs : List Loc), bd D classes N0 N1 (wsC G cI cL cQ σ π rest) s H locs → ∀ (ls : Array Slot), lv_has ls 11 [(0, .ref (G 0 6)), (1, .int v1), (2, .int v2), (3, .int v3), (4, .int v4), (5, .int v5), (6, .int v6), (7, .int v7), (8, .int v8), (9, .int v9)] → W p l e { frames := 4, cells := 0, slots := 0, locals := 90 } s m args below meth c H locs 0 0 (MQ below (qx D classes N0 N1 (some (.int RES)) (fun w => w = wsC G cI cL cQ σ π rest)) args s 0 0 (ga N1)) (F0 m 35 ls []) := by
  have hx := hC.1
  have hb := hC.2.1
  intro n
  induction n with
  | zero =>
    intro v1 v2 v3 v4 v5 v6 v7 v8 v9 hI
    exact absurd hI (fun h => up_zero h.1)
  | succ n ih =>
    intro v1 v2 v3 v4 v5 v6 v7 v8 v9 hI hR H locs hB ls hl
    rw [lp_Variants_nearest_35] at hR
    refine lv_iload hx hb d_Variants_nearest_35 (lv_at hl 9 rfl) ?_
    refine lv_bipush (v := 24) hx hb d_Variants_nearest_37 (by decide) ?_
    refine lv_icmp_ge (tgt := 84) hx hb d_Variants_nearest_39 (by decide) (fun c_1 => ?_) (fun c_1 => ?_)
    · rw [if_pos c_1] at hR
      refine lv_aload_n hx hb d_Variants_nearest_84 rfl (lv_at hl 0 rfl) ?_
      refine gt hC hB _ lkC_Variants rfl i_Variants 2 (by decide) rfl kw_176 rfl d_Variants_nearest_85 ?_
      refine lv_iload hx hb d_Variants_nearest_88 (lv_at hl 5 rfl) ?_
      refine kV hC hB _ (lkC_row (by decide)) rfl (c_Row_at 13 (by decide) σ π v5) allw_ok mf_Row_at kw_233 kw_234 kw_738 ⟨rfl, rfl, Nat.le_of_ble_eq_true rfl, Nat.le_of_ble_eq_true rfl⟩ rfl rfl hl.1 (Nat.le_of_ble_eq_true rfl) d_Variants_nearest_90 ⟨Nat.le_of_ble_eq_true rfl, Nat.le_of_ble_eq_true rfl⟩ (roK fun H locs hB => ?_)
      refine lv_istore (lv' := [(5, .int (m_Row_at σ 13 v5)), (0, .ref (G 0 6)), (1, .int v1), (2, .int v2), (3, .int v3), (4, .int v4), (6, .int v6), (7, .int v7), (8, .int v8), (9, .int v9)]) hx hb d_Variants_nearest_93 hl (by decide) rfl (fun ls hl => ?_)
      refine lv_iinc (v := (v6 + 1)) (lv' := [(6, .int (v6 + 1)), (5, .int (m_Row_at σ 13 v5)), (0, .ref (G 0 6)), (1, .int v1), (2, .int v2), (3, .int v3), (4, .int v4), (7, .int v7), (8, .int v8), (9, .int v9)]) hx hb d_Variants_nearest_95 hl (k := 6) rfl rfl (by decide) rfl (fun ls hl => ?_)
      refine lv_goto (tgt := 6) hx hb d_Variants_nearest_98 (by decide) ?_
      exact hK v1 v2 v3 v4 (m_Row_at σ 13 v5) (v6 + 1) (hI.2) hR _ _ hB ls (lv_sub hl [2, 3, 4, 5, 6, 1, 0] rfl)
    · rw [if_neg c_1] at hR
      refine lv_iload hx hb d_Variants_nearest_42 (lv_at hl 8 rfl) ?_
      refine lv_iconst (v := (-1)) hx hb d_Variants_nearest_44 (by decide) ?_
      refine lv_icmp_eq (tgt := 84) hx hb d_Variants_nearest_45 (by decide) (fun c_2 => ?_) (fun c_2 => ?_)
      · rw [if_pos c_2] at hR
        refine lv_aload_n hx hb d_Variants_nearest_84 rfl (lv_at hl 0 rfl) ?_
        refine gt hC hB _ lkC_Variants rfl i_Variants 2 (by decide) rfl kw_176 rfl d_Variants_nearest_85 ?_
        refine lv_iload hx hb d_Variants_nearest_88 (lv_at hl 5 rfl) ?_
        refine kV hC hB _ (lkC_row (by decide)) rfl (c_Row_at 13 (by decide) σ π v5) allw_ok mf_Row_at kw_233 kw_234 kw_738 ⟨rfl, rfl, Nat.le_of_ble_eq_true rfl, Nat.le_of_ble_eq_true rfl⟩ rfl rfl hl.1 (Nat.le_of_ble_eq_true rfl) d_Variants_nearest_90 ⟨Nat.le_of_ble_eq_true rfl, Nat.le_of_ble_eq_true rfl⟩ (roK fun H locs hB => ?_)
        refine lv_istore (lv' := [(5, .int (m_Row_at σ 13 v5)), (0, .ref (G 0 6)), (1, .int v1), (2, .int v2), (3, .int v3), (4, .int v4), (6, .int v6), (7, .int v7), (8, .int v8), (9, .int v9)]) hx hb d_Variants_nearest_93 hl (by decide) rfl (fun ls hl => ?_)
        refine lv_iinc (v := (v6 + 1)) (lv' := [(6, .int (v6 + 1)), (5, .int (m_Row_at σ 13 v5)), (0, .ref (G 0 6)), (1, .int v1), (2, .int v2), (3, .int v3), (4, .int v4), (7, .int v7), (8, .int v8), (9, .int v9)]) hx hb d_Variants_nearest_95 hl (k := 6) rfl rfl (by decide) rfl (fun ls hl => ?_)
        refine lv_goto (tgt := 6) hx hb d_Variants_nearest_98 (by decide) ?_
        exact hK v1 v2 v3 v4 (m_Row_at σ 13 v5) (v6 + 1) (hI.2) hR _ _ hB ls (lv_sub hl [2, 3, 4, 5, 6, 1, 0] rfl)
      · rw [if_neg c_2] at hR
        refine lv_aload_n hx hb d_Variants_nearest_48 rfl (lv_at hl 0 rfl) ?_
        refine lv_iload hx hb d_Variants_nearest_49 (lv_at hl 7 rfl) ?_
        refine lv_iload hx hb d_Variants_nearest_51 (lv_at hl 8 rfl) ?_
        refine kV hC hB _ lkC_Variants rfl (c_Variants_find σ π v7 v8) allw_ok mf_Variants_find kw_771 ks_23 kw_769 ⟨rfl, rfl, Nat.le_of_ble_eq_true rfl, Nat.le_of_ble_eq_true rfl⟩ rfl rfl hl.1 (Nat.le_of_ble_eq_true rfl) d_Variants_nearest_53 ⟨Nat.le_of_ble_eq_true rfl, Nat.le_of_ble_eq_true rfl⟩ (roK fun H locs hB => ?_)
        refine lv_istore (lv' := [(10, .int (m_Variants_find σ v7 v8)), (0, .ref (G 0 6)), (1, .int v1), (2, .int v2), (3, .int v3), (4, .int v4), (5, .int v5), (6, .int v6), (7, .int v7), (8, .int v8), (9, .int v9)]) hx hb d_Variants_nearest_56 hl (by decide) rfl (fun ls hl => ?_)
        refine lv_iload hx hb d_Variants_nearest_58 (lv_at hl 0 rfl) ?_
        refine lv_iconst (v := (-1)) hx hb d_Variants_nearest_60 (by decide) ?_
        refine lv_icmp_eq (tgt := 67) hx hb d_Variants_nearest_61 (by decide) (fun c_3 => ?_) (fun c_3 => ?_)
        · rw [if_pos c_3] at hR
          refine lv_aload_n hx hb d_Variants_nearest_67 rfl (lv_at hl 1 rfl) ?_
          refine gt hC hB _ lkC_Variants rfl i_Variants 0 (by decide) rfl kw_174 rfl d_Variants_nearest_68 ?_
          refine lv_iload hx hb d_Variants_nearest_71 (lv_at hl 9 rfl) ?_
          refine kV hC hB _ lkC_Book rfl (c_Book_pageAbove σ π v8) allw_ok mf_Book_pageAbove kw_245 kw_246 kw_779 ⟨rfl, rfl, Nat.le_of_ble_eq_true rfl, Nat.le_of_ble_eq_true rfl⟩ rfl rfl hl.1 (Nat.le_of_ble_eq_true rfl) d_Variants_nearest_73 ⟨Nat.le_of_ble_eq_true rfl, Nat.le_of_ble_eq_true rfl⟩ (roK fun H locs hB => ?_)
          refine lv_istore (lv' := [(8, .int (m_Book_pageAbove σ v8)), (10, .int (m_Variants_find σ v7 v8)), (0, .ref (G 0 6)), (1, .int v1), (2, .int v2), (3, .int v3), (4, .int v4), (5, .int v5), (6, .int v6), (7, .int v7), (9, .int v9)]) hx hb d_Variants_nearest_76 hl (by decide) rfl (fun ls hl => ?_)
          refine lv_iinc (v := (v9 + 1)) (lv' := [(9, .int (v9 + 1)), (8, .int (m_Book_pageAbove σ v8)), (10, .int (m_Variants_find σ v7 v8)), (0, .ref (G 0 6)), (1, .int v1), (2, .int v2), (3, .int v3), (4, .int v4), (5, .int v5), (6, .int v6), (7, .int v7)]) hx hb d_Variants_nearest_78 hl (k := 10) rfl rfl (by decide) rfl (fun ls hl => ?_)
          refine lv_goto (tgt := 35) hx hb d_Variants_nearest_81 (by decide) ?_
          exact ih v1 v2 v3 v4 v5 v6 v7 (m_Book_pageAbove σ v8) (v9 + 1) (⟨up_step hI.1 (by assumption), hI.2⟩) hR _ _ hB ls (lv_sub hl [3, 4, 5, 6, 7, 8, 9, 10, 1, 0] rfl)
        · rw [if_neg c_3] at hR
          refine lv_iload hx hb d_Variants_nearest_64 (lv_at hl 0 rfl) ?_
          subst hR
          exact ri hC hB rfl d_Variants_nearest_66

set_option maxHeartbeats 400000 in
set_option maxRecDepth 100000 in
theorem w_Variants_nearest_6 {p : Program} {e : Env} {s : State} {m : MethodId} {args : Array Value} {below : List Frame} {meth : Method} {c : Code} {RES : Int32}  (σ : SC) (π : PJ) (hC : cx D classes (tyL cI cL cQ) NWL ALLW N1 p s m args meth c b_Variants_nearest 11 (some .int) R_Variants) :
    ∀ (n : Nat) (v1 : Int32) (v2 : Int32) (v3 : Int32) (v4 : Int32) (v5 : Int32) (v6 : Int32), upI n (10 : Int32) v6 → lp_Variants_nearest_6 n σ  v1 v2 v3 v4 v5 v6 = RES → ∀ (H : Heap) (locs : List Loc), bd D classes N0 N1 (wsC G cI cL cQ σ π rest) s H locs → ∀ (ls : Array Slot), lv_has ls 11 [(0, .ref (G 0 6)), (1, .int v1), (2, .int v2), (3, .int v3), (4, .int v4), (5, .int v5), (6, .int v6)] → W p l e { frames := 4, cells := 0, slots := 0, locals := 90 } s m args below meth c H locs 0 0 (MQ below (qx D classes N0 N1 (some (.int RES)) (fun w => w = wsC G cI cL cQ σ π rest)) args s 0 0 (ga N1)) (F0 m 6 ls []) := by
  have hx := hC.1
  have hb := hC.2.1
  intro n
  induction n with
  | zero =>
    intro v1 v2 v3 v4 v5 v6 hI
    exact absurd hI up_zero
  | succ n ih =>
    intro v1 v2 v3 v4 v5 v6 hI hR H locs hB ls hl
    rw [lp_Variants_nearest_6] at hR
    refine lv_iload hx hb d_Variants_nearest_6 (lv_at hl 6 rfl) ?_
    refine lv_bipush (v := 10) hx hb d_Variants_nearest_8 (by decide) ?_
    refine lv_icmp_ge (tgt := 101) hx hb d_Variants_nearest_10 (by decide) (fun c_1 => ?_) (fun c_1 => ?_)
    · rw [if_pos c_1] at hR
      refine lv_iconst (v := (-1)) hx hb d_Variants_nearest_101 (by decide) ?_
      subst hR
      exact ri hC hB rfl d_Variants_nearest_102
    · rw [if_neg c_1] at hR
      refine lv_iload hx hb d_Variants_nearest_13 (lv_at hl 5 rfl) ?_
      refine lv_iconst (v := (-1)) hx hb d_Variants_nearest_15 (by decide) ?_
      refine lv_icmp_eq (tgt := 101) hx hb d_Variants_nearest_16 (by decide) (fun c_2 => ?_) (fun c_2 => ?_)
      · rw [if_pos c_2] at hR
        refine lv_iconst (v := (-1)) hx hb d_Variants_nearest_101 (by decide) ?_
        subst hR
        exact ri hC hB rfl d_Variants_nearest_102
      · rw [if_neg c_2] at hR
        refine lv_iload_n hx hb d_Variants_nearest_19 rfl (lv_at hl 1 rfl) ?_
        refine lv_iload hx hb d_Variants_nearest_20 (lv_at hl 5 rfl) ?_
        refine lv_iload hx hb d_Variants_nearest_22 (lv_at hl 4 rfl) ?_
        refine kS hC hB (c_Variants_subjectOf σ π v1 v5 v4) allw_ok mf_Variants_subjectOf kw_767 kw_766 ⟨rfl, rfl, Nat.le_of_ble_eq_true rfl, Nat.le_of_ble_eq_true rfl⟩ rfl rfl hl.1 (Nat.le_of_ble_eq_true rfl) d_Variants_nearest_24 ⟨Nat.le_of_ble_eq_true rfl, Nat.le_of_ble_eq_true rfl⟩ (roK fun H locs hB => ?_)
        refine lv_istore (lv' := [(7, .int (m_Variants_subjectOf v1 v5 v4)), (0, .ref (G 0 6)), (1, .int v1), (2, .int v2), (3, .int v3), (4, .int v4), (5, .int v5), (6, .int v6)]) hx hb d_Variants_nearest_27 hl (by decide) rfl (fun ls hl => ?_)
        refine lv_iload_n hx hb d_Variants_nearest_29 rfl (lv_at hl 4 rfl) ?_
        refine lv_istore (lv' := [(8, .int v3), (7, .int (m_Variants_subjectOf v1 v5 v4)), (0, .ref (G 0 6)), (1, .int v1), (2, .int v2), (3, .int v3), (4, .int v4), (5, .int v5), (6, .int v6)]) hx hb d_Variants_nearest_30 hl (by decide) rfl (fun ls hl => ?_)
        refine lv_iconst (v := 0) hx hb d_Variants_nearest_32 (by decide) ?_
        refine lv_istore (lv' := [(9, .int 0), (8, .int v3), (7, .int (m_Variants_subjectOf v1 v5 v4)), (0, .ref (G 0 6)), (1, .int v1), (2, .int v2), (3, .int v3), (4, .int v4), (5, .int v5), (6, .int v6)]) hx hb d_Variants_nearest_33 hl (by decide) rfl (fun ls hl => ?_)
        exact w_Variants_nearest_35 (lp_Variants_nearest_6 n)  σ π hC ih ((24 : Int32).toNatClampNeg + 1) v1 v2 v3 v4 v5 v6 (m_Variants_subjectOf v1 v5 v4) v3 0 (⟨up_init _, up_step hI (by assumption)⟩) hR _ _ hB ls (lv_sub hl [3, 4, 5, 6, 7, 8, 9, 2, 1, 0] rfl)

set_option maxHeartbeats 400000 in
set_option maxRecDepth 100000 in
theorem c_Variants_nearest  (σ : SC) (π : PJ) (x0 : Int32) (x1 : Int32) (x2 : Int32) (x3 : Int32) : CM l y_Variants_nearest b_Variants_nearest 11 (some .int) { frames := 4, cells := 0, slots := 0, locals := 90 } D (tyL cI cL cQ) N0 N1 [.ref (G 0 6), .int x0, .int x1, .int x2, .int x3] (wsC G cI cL cQ σ π rest) (some (.int (m_Variants_nearest σ x0 x1 x2 x3))) (fun w => w = wsC G cI cL cQ σ π rest) 0 0 := by
  generalize hR : m_Variants_nearest σ x0 x1 x2 x3 = RES
  refine met_of (own := R_Variants) (by decide) rfl nwl_ok ?_
  intro p e s m below meth c hC hin hB
  have hx := hC.1
  have hb := hC.2.1
  have hl := lv_entry ([.ref (G 0 6), .int x0, .int x1, .int x2, .int x3]) (n := 11) (Nat.le_of_ble_eq_true rfl)
  rw [lg_entry_eq]
  generalize (lg_sl ([.ref (G 0 6), .int x0, .int x1, .int x2, .int x3]) ++ List.replicate (11 - (lg_sl ([.ref (G 0 6), .int x0, .int x1, .int x2, .int x3])).length) Slot.unset).toArray = ls at hl ⊢
  have hl : lv_has ls 11 [(0, .ref (G 0 6)), (1, .int x0), (2, .int x1), (3, .int x2), (4, .int x3)] := hl
  rw [m_Variants_nearest] at hR
  refine lv_iload_n hx hb d_Variants_nearest_0 rfl (lv_at hl 2 rfl) ?_
  refine lv_istore (lv' := [(5, .int x1), (0, .ref (G 0 6)), (1, .int x0), (2, .int x1), (3, .int x2), (4, .int x3)]) hx hb d_Variants_nearest_1 hl (by decide) rfl (fun ls hl => ?_)
  refine lv_iconst (v := 0) hx hb d_Variants_nearest_3 (by decide) ?_
  refine lv_istore (lv' := [(6, .int 0), (5, .int x1), (0, .ref (G 0 6)), (1, .int x0), (2, .int x1), (3, .int x2), (4, .int x3)]) hx hb d_Variants_nearest_4 hl (by decide) rfl (fun ls hl => ?_)
  exact w_Variants_nearest_6  σ π hC ((10 : Int32).toNatClampNeg + 1) x0 x1 x2 x3 x1 0 (up_init _) hR _ _ hB ls (lv_sub hl [2, 3, 4, 5, 6, 1, 0] rfl)

set_option maxHeartbeats 400000 in
set_option maxRecDepth 100000 in
theorem w_Book_lay_49 {p : Program} {e : Env} {s : State} {m : MethodId} {args : Array Value} {below : List Frame} {meth : Method} {c : Code} {RES : SC} (K : SC → Int32 → Int32 → SC)  (π : PJ) (hC : cx D classes (tyL cI cL cQ) NWL ALLW N0 p s m args meth c b_Book_lay 5 (none) R_Book) {nO : Nat} (hK : ∀ (σ : SC) (v1 : Int32) (v2 : Int32), upI nO (300 : Int32) v2 → K σ  v1 v2 = RES → ∀ (H : Heap) (locs : List Loc), bd D classes N0 N0 (wsC G cI cL cQ σ π rest) s H locs → ∀ (ls : Array Slot), lv_has ls 5 [(0, .ref (G 0 4)), (1, .int v1), (2, .int v2)] → W p l e { frames := 3, cells := 0, slots := 0, locals := 67 } s m args below meth c H locs 0 0 (MQ below (qx D classes N0 N0 (none) (fun w => w = wsC G cI cL cQ RES π rest)) args s 0 0 (ga N0)) (F0 m 26 ls [])) :
    ∀ (n : Nat) (σ : SC) (v1 : Int32) (v2 : Int32) (v3 : Int32) (v4 : Int32), (upI n (24 : Int32) v4 ∧ upI nO (300 : Int32) (v2 + 1)) → lp_Book_lay_49 K n σ  v1 v2 v3 v4 = RES → ∀ (H : Heap) (locs : List Loc), bd D classes N0 N0 (wsC G cI cL cQ σ π rest) s H locs → ∀ (ls : Array Slot), lv_has ls 5 [(0, .ref (G 0 4)), (1, .int v1), (2, .int v2), (3, .int v3), (4, .int v4)] → W p l e { frames := 3, cells := 0, slots := 0, locals := 67 } s m args below meth c H locs 0 0 (MQ below (qx D classes N0 N0 (none) (fun w => w = wsC G cI cL cQ RES π rest)) args s 0 0 (ga N0)) (F0 m 49 ls []) := by
  have hx := hC.1
  have hb := hC.2.1
  intro n
  induction n with
  | zero =>
    intro σ v1 v2 v3 v4 hI
    exact absurd hI (fun h => up_zero h.1)
  | succ n ih =>
    intro σ v1 v2 v3 v4 hI hR H locs hB ls hl
    rw [lp_Book_lay_49] at hR
    refine lv_iload hx hb d_Book_lay_49 (lv_at hl 4 rfl) ?_
    refine lv_bipush (v := 24) hx hb d_Book_lay_51 (by decide) ?_
    refine lv_icmp_ge (tgt := 90) hx hb d_Book_lay_53 (by decide) (fun c_1 => ?_) (fun c_1 => ?_)
    · rw [if_pos c_1] at hR
      refine lv_iload_n hx hb d_Book_lay_90 rfl (lv_at hl 3 rfl) ?_
      refine lv_iconst (v := (-1)) hx hb d_Book_lay_91 (by decide) ?_
      refine lv_icmp_ne (tgt := 96) hx hb d_Book_lay_92 (by decide) (fun c_2 => ?_) (fun c_2 => ?_)
      · rw [if_neg c_2] at hR
        refine lv_aload_n hx hb d_Book_lay_96 rfl (lv_at hl 0 rfl) ?_
        refine lv_aload_n hx hb d_Book_lay_97 rfl (lv_at hl 0 rfl) ?_
        refine gt hC hB _ lkC_Book rfl i_Book 0 (by decide) rfl kw_105 rfl d_Book_lay_98 ?_
        refine lv_iload_n hx hb d_Book_lay_101 rfl (lv_at hl 3 rfl) ?_
        refine kV hC hB _ lkC_Sheets rfl (c_Sheets_sheetOf σ π v3) allw_ok mf_Sheets_sheetOf kw_249 kw_250 kw_248 ⟨rfl, rfl, Nat.le_of_ble_eq_true rfl, Nat.le_of_ble_eq_true rfl⟩ rfl rfl hl.1 (Nat.le_of_ble_eq_true rfl) d_Book_lay_102 ⟨Nat.le_of_ble_eq_true rfl, Nat.le_of_ble_eq_true rfl⟩ (roK fun H locs hB => ?_)
        refine lv_iload_n hx hb d_Book_lay_105 rfl (lv_at hl 3 rfl) ?_
        refine lv_iload_n hx hb d_Book_lay_106 rfl (lv_at hl 1 rfl) ?_
        refine lv_aload_n hx hb d_Book_lay_107 rfl (lv_at hl 0 rfl) ?_
        refine lv_iload_n hx hb d_Book_lay_108 rfl (lv_at hl 1 rfl) ?_
        refine kV hC hB _ lkC_Book rfl (c_Book_depthAt σ π v1) allw_ok mf_Book_depthAt kw_253 kw_254 kw_252 ⟨rfl, rfl, Nat.le_of_ble_eq_true rfl, Nat.le_of_ble_eq_true rfl⟩ rfl rfl hl.1 (Nat.le_of_ble_eq_true rfl) d_Book_lay_109 ⟨Nat.le_of_ble_eq_true rfl, Nat.le_of_ble_eq_true rfl⟩ (roK fun H locs hB => ?_)
        refine lv_iconst (v := 1) hx hb d_Book_lay_112 (by decide) ?_
        refine lv_iadd hx hb d_Book_lay_113 ?_
        refine kV hC hB _ lkC_Book rfl (c_Book_addPage σ π (m_Sheets_sheetOf σ v3) v3 v1 ((m_Book_depthAt σ v1) + 1)) allw_ok mf_Book_addPage kw_207 ks_0 kw_205 ⟨rfl, rfl, Nat.le_of_ble_eq_true rfl, Nat.le_of_ble_eq_true rfl⟩ rfl rfl hl.1 (Nat.le_of_ble_eq_true rfl) d_Book_lay_114 ⟨Nat.le_of_ble_eq_true rfl, Nat.le_of_ble_eq_true rfl⟩ (roK fun H locs hB => ?_)
        refine lv_istore_n (lv' := [(1, .int ((m_Book_addPage σ (m_Sheets_sheetOf σ v3) v3 v1 ((m_Book_depthAt σ v1) + 1)).1)), (0, .ref (G 0 4)), (2, .int v2), (3, .int v3), (4, .int v4)]) hx hb d_Book_lay_117 rfl hl (by decide) rfl (fun ls hl => ?_)
        refine lv_iinc (v := (v2 + 1)) (lv' := [(2, .int (v2 + 1)), (1, .int ((m_Book_addPage σ (m_Sheets_sheetOf σ v3) v3 v1 ((m_Book_depthAt σ v1) + 1)).1)), (0, .ref (G 0 4)), (3, .int v3), (4, .int v4)]) hx hb d_Book_lay_118 hl (k := 2) rfl rfl (by decide) rfl (fun ls hl => ?_)
        refine lv_goto (tgt := 26) hx hb d_Book_lay_121 (by decide) ?_
        exact hK ((m_Book_addPage σ (m_Sheets_sheetOf σ v3) v3 v1 ((m_Book_depthAt σ v1) + 1)).2) ((m_Book_addPage σ (m_Sheets_sheetOf σ v3) v3 v1 ((m_Book_depthAt σ v1) + 1)).1) (v2 + 1) (hI.2) hR _ _ hB ls (lv_sub hl [2, 1, 0] rfl)
      · rw [if_pos c_2] at hR
        subst hR
        exact rv hC hB rfl d_Book_lay_95
    · rw [if_neg c_1] at hR
      refine lv_iload_n hx hb d_Book_lay_56 rfl (lv_at hl 3 rfl) ?_
      refine lv_iconst (v := (-1)) hx hb d_Book_lay_57 (by decide) ?_
      refine lv_icmp_ne (tgt := 90) hx hb d_Book_lay_58 (by decide) (fun c_3 => ?_) (fun c_3 => ?_)
      · rw [if_neg c_3] at hR
        refine lv_iload_n hx hb d_Book_lay_90 rfl (lv_at hl 3 rfl) ?_
        refine lv_iconst (v := (-1)) hx hb d_Book_lay_91 (by decide) ?_
        refine lv_icmp_ne (tgt := 96) hx hb d_Book_lay_92 (by decide) (fun c_6 => ?_) (fun c_6 => ?_)
        · rw [if_neg c_6] at hR
          refine lv_aload_n hx hb d_Book_lay_96 rfl (lv_at hl 0 rfl) ?_
          refine lv_aload_n hx hb d_Book_lay_97 rfl (lv_at hl 0 rfl) ?_
          refine gt hC hB _ lkC_Book rfl i_Book 0 (by decide) rfl kw_105 rfl d_Book_lay_98 ?_
          refine lv_iload_n hx hb d_Book_lay_101 rfl (lv_at hl 3 rfl) ?_
          refine kV hC hB _ lkC_Sheets rfl (c_Sheets_sheetOf σ π v3) allw_ok mf_Sheets_sheetOf kw_249 kw_250 kw_248 ⟨rfl, rfl, Nat.le_of_ble_eq_true rfl, Nat.le_of_ble_eq_true rfl⟩ rfl rfl hl.1 (Nat.le_of_ble_eq_true rfl) d_Book_lay_102 ⟨Nat.le_of_ble_eq_true rfl, Nat.le_of_ble_eq_true rfl⟩ (roK fun H locs hB => ?_)
          refine lv_iload_n hx hb d_Book_lay_105 rfl (lv_at hl 3 rfl) ?_
          refine lv_iload_n hx hb d_Book_lay_106 rfl (lv_at hl 1 rfl) ?_
          refine lv_aload_n hx hb d_Book_lay_107 rfl (lv_at hl 0 rfl) ?_
          refine lv_iload_n hx hb d_Book_lay_108 rfl (lv_at hl 1 rfl) ?_
          refine kV hC hB _ lkC_Book rfl (c_Book_depthAt σ π v1) allw_ok mf_Book_depthAt kw_253 kw_254 kw_252 ⟨rfl, rfl, Nat.le_of_ble_eq_true rfl, Nat.le_of_ble_eq_true rfl⟩ rfl rfl hl.1 (Nat.le_of_ble_eq_true rfl) d_Book_lay_109 ⟨Nat.le_of_ble_eq_true rfl, Nat.le_of_ble_eq_true rfl⟩ (roK fun H locs hB => ?_)
          refine lv_iconst (v := 1) hx hb d_Book_lay_112 (by decide) ?_
          refine lv_iadd hx hb d_Book_lay_113 ?_
          refine kV hC hB _ lkC_Book rfl (c_Book_addPage σ π (m_Sheets_sheetOf σ v3) v3 v1 ((m_Book_depthAt σ v1) + 1)) allw_ok mf_Book_addPage kw_207 ks_0 kw_205 ⟨rfl, rfl, Nat.le_of_ble_eq_true rfl, Nat.le_of_ble_eq_true rfl⟩ rfl rfl hl.1 (Nat.le_of_ble_eq_true rfl) d_Book_lay_114 ⟨Nat.le_of_ble_eq_true rfl, Nat.le_of_ble_eq_true rfl⟩ (roK fun H locs hB => ?_)
          refine lv_istore_n (lv' := [(1, .int ((m_Book_addPage σ (m_Sheets_sheetOf σ v3) v3 v1 ((m_Book_depthAt σ v1) + 1)).1)), (0, .ref (G 0 4)), (2, .int v2), (3, .int v3), (4, .int v4)]) hx hb d_Book_lay_117 rfl hl (by decide) rfl (fun ls hl => ?_)
          refine lv_iinc (v := (v2 + 1)) (lv' := [(2, .int (v2 + 1)), (1, .int ((m_Book_addPage σ (m_Sheets_sheetOf σ v3) v3 v1 ((m_Book_depthAt σ v1) + 1)).1)), (0, .ref (G 0 4)), (3, .int v3), (4, .int v4)]) hx hb d_Book_lay_118 hl (k := 2) rfl rfl (by decide) rfl (fun ls hl => ?_)
          refine lv_goto (tgt := 26) hx hb d_Book_lay_121 (by decide) ?_
          exact hK ((m_Book_addPage σ (m_Sheets_sheetOf σ v3) v3 v1 ((m_Book_depthAt σ v1) + 1)).2) ((m_Book_addPage σ (m_Sheets_sheetOf σ v3) v3 v1 ((m_Book_depthAt σ v1) + 1)).1) (v2 + 1) (hI.2) hR _ _ hB ls (lv_sub hl [2, 1, 0] rfl)
        · rw [if_pos c_6] at hR
          subst hR
          exact rv hC hB rfl d_Book_lay_95
      · rw [if_pos c_3] at hR
        refine lv_iload_n hx hb d_Book_lay_61 rfl (lv_at hl 1 rfl) ?_
        refine lv_if_le (tgt := 90) hx hb d_Book_lay_62 (by decide) (fun c_4 => ?_) (fun c_4 => ?_)
        · rw [if_pos c_4] at hR
          refine lv_iload_n hx hb d_Book_lay_90 rfl (lv_at hl 3 rfl) ?_
          refine lv_iconst (v := (-1)) hx hb d_Book_lay_91 (by decide) ?_
          refine lv_icmp_ne (tgt := 96) hx hb d_Book_lay_92 (by decide) (fun c_5 => ?_) (fun c_5 => ?_)
          · rw [if_neg c_5] at hR
            refine lv_aload_n hx hb d_Book_lay_96 rfl (lv_at hl 0 rfl) ?_
            refine lv_aload_n hx hb d_Book_lay_97 rfl (lv_at hl 0 rfl) ?_
            refine gt hC hB _ lkC_Book rfl i_Book 0 (by decide) rfl kw_105 rfl d_Book_lay_98 ?_
            refine lv_iload_n hx hb d_Book_lay_101 rfl (lv_at hl 3 rfl) ?_
            refine kV hC hB _ lkC_Sheets rfl (c_Sheets_sheetOf σ π v3) allw_ok mf_Sheets_sheetOf kw_249 kw_250 kw_248 ⟨rfl, rfl, Nat.le_of_ble_eq_true rfl, Nat.le_of_ble_eq_true rfl⟩ rfl rfl hl.1 (Nat.le_of_ble_eq_true rfl) d_Book_lay_102 ⟨Nat.le_of_ble_eq_true rfl, Nat.le_of_ble_eq_true rfl⟩ (roK fun H locs hB => ?_)
            refine lv_iload_n hx hb d_Book_lay_105 rfl (lv_at hl 3 rfl) ?_
            refine lv_iload_n hx hb d_Book_lay_106 rfl (lv_at hl 1 rfl) ?_
            refine lv_aload_n hx hb d_Book_lay_107 rfl (lv_at hl 0 rfl) ?_
            refine lv_iload_n hx hb d_Book_lay_108 rfl (lv_at hl 1 rfl) ?_
            refine kV hC hB _ lkC_Book rfl (c_Book_depthAt σ π v1) allw_ok mf_Book_depthAt kw_253 kw_254 kw_252 ⟨rfl, rfl, Nat.le_of_ble_eq_true rfl, Nat.le_of_ble_eq_true rfl⟩ rfl rfl hl.1 (Nat.le_of_ble_eq_true rfl) d_Book_lay_109 ⟨Nat.le_of_ble_eq_true rfl, Nat.le_of_ble_eq_true rfl⟩ (roK fun H locs hB => ?_)
            refine lv_iconst (v := 1) hx hb d_Book_lay_112 (by decide) ?_
            refine lv_iadd hx hb d_Book_lay_113 ?_
            refine kV hC hB _ lkC_Book rfl (c_Book_addPage σ π (m_Sheets_sheetOf σ v3) v3 v1 ((m_Book_depthAt σ v1) + 1)) allw_ok mf_Book_addPage kw_207 ks_0 kw_205 ⟨rfl, rfl, Nat.le_of_ble_eq_true rfl, Nat.le_of_ble_eq_true rfl⟩ rfl rfl hl.1 (Nat.le_of_ble_eq_true rfl) d_Book_lay_114 ⟨Nat.le_of_ble_eq_true rfl, Nat.le_of_ble_eq_true rfl⟩ (roK fun H locs hB => ?_)
            refine lv_istore_n (lv' := [(1, .int ((m_Book_addPage σ (m_Sheets_sheetOf σ v3) v3 v1 ((m_Book_depthAt σ v1) + 1)).1)), (0, .ref (G 0 4)), (2, .int v2), (3, .int v3), (4, .int v4)]) hx hb d_Book_lay_117 rfl hl (by decide) rfl (fun ls hl => ?_)
            refine lv_iinc (v := (v2 + 1)) (lv' := [(2, .int (v2 + 1)), (1, .int ((m_Book_addPage σ (m_Sheets_sheetOf σ v3) v3 v1 ((m_Book_depthAt σ v1) + 1)).1)), (0, .ref (G 0 4)), (3, .int v3), (4, .int v4)]) hx hb d_Book_lay_118 hl (k := 2) rfl rfl (by decide) rfl (fun ls hl => ?_)
            refine lv_goto (tgt := 26) hx hb d_Book_lay_121 (by decide) ?_
            exact hK ((m_Book_addPage σ (m_Sheets_sheetOf σ v3) v3 v1 ((m_Book_depthAt σ v1) + 1)).2) ((m_Book_addPage σ (m_Sheets_sheetOf σ v3) v3 v1 ((m_Book_depthAt σ v1) + 1)).1) (v2 + 1) (hI.2) hR _ _ hB ls (lv_sub hl [2, 1, 0] rfl)
          · rw [if_pos c_5] at hR
            subst hR
            exact rv hC hB rfl d_Book_lay_95
        · rw [if_neg c_4] at hR
          refine lv_aload_n hx hb d_Book_lay_65 rfl (lv_at hl 0 rfl) ?_
          refine gt hC hB _ lkC_Book rfl i_Book 0 (by decide) rfl kw_105 rfl d_Book_lay_66 ?_
          refine lv_aload_n hx hb d_Book_lay_69 rfl (lv_at hl 0 rfl) ?_
          refine lv_iload_n hx hb d_Book_lay_70 rfl (lv_at hl 1 rfl) ?_
          refine kV hC hB _ lkC_Book rfl (c_Book_placementAt σ π v1) allw_ok mf_Book_placementAt kw_237 kw_238 kw_236 ⟨rfl, rfl, Nat.le_of_ble_eq_true rfl, Nat.le_of_ble_eq_true rfl⟩ rfl rfl hl.1 (Nat.le_of_ble_eq_true rfl) d_Book_lay_71 ⟨Nat.le_of_ble_eq_true rfl, Nat.le_of_ble_eq_true rfl⟩ (roK fun H locs hB => ?_)
          refine kV hC hB _ lkC_Sheets rfl (c_Sheets_nextOf σ π (m_Book_placementAt σ v1)) allw_ok mf_Sheets_nextOf kw_241 kw_242 kw_240 ⟨rfl, rfl, Nat.le_of_ble_eq_true rfl, Nat.le_of_ble_eq_true rfl⟩ rfl rfl hl.1 (Nat.le_of_ble_eq_true rfl) d_Book_lay_74 ⟨Nat.le_of_ble_eq_true rfl, Nat.le_of_ble_eq_true rfl⟩ (roK fun H locs hB => ?_)
          refine lv_istore_n (lv' := [(3, .int (m_Sheets_nextOf σ (m_Book_placementAt σ v1))), (0, .ref (G 0 4)), (1, .int v1), (2, .int v2), (4, .int v4)]) hx hb d_Book_lay_77 rfl hl (by decide) rfl (fun ls hl => ?_)
          refine lv_aload_n hx hb d_Book_lay_78 rfl (lv_at hl 1 rfl) ?_
          refine lv_iload_n hx hb d_Book_lay_79 rfl (lv_at hl 2 rfl) ?_
          refine kV hC hB _ lkC_Book rfl (c_Book_pageAbove σ π v1) allw_ok mf_Book_pageAbove kw_245 kw_246 kw_244 ⟨rfl, rfl, Nat.le_of_ble_eq_true rfl, Nat.le_of_ble_eq_true rfl⟩ rfl rfl hl.1 (Nat.le_of_ble_eq_true rfl) d_Book_lay_80 ⟨Nat.le_of_ble_eq_true rfl, Nat.le_of_ble_eq_true rfl⟩ (roK fun H locs hB => ?_)
          refine lv_istore_n (lv' := [(1, .int (m_Book_pageAbove σ v1)), (3, .int (m_Sheets_nextOf σ (m_Book_placementAt σ v1))), (0, .ref (G 0 4)), (2, .int v2), (4, .int v4)]) hx hb d_Book_lay_83 rfl hl (by decide) rfl (fun ls hl => ?_)
          refine lv_iinc (v := (v4 + 1)) (lv' := [(4, .int (v4 + 1)), (1, .int (m_Book_pageAbove σ v1)), (3, .int (m_Sheets_nextOf σ (m_Book_placementAt σ v1))), (0, .ref (G 0 4)), (2, .int v2)]) hx hb d_Book_lay_84 hl (k := 4) rfl rfl (by decide) rfl (fun ls hl => ?_)
          refine lv_goto (tgt := 49) hx hb d_Book_lay_87 (by decide) ?_
          exact ih σ (m_Book_pageAbove σ v1) v2 (m_Sheets_nextOf σ (m_Book_placementAt σ v1)) (v4 + 1) (⟨up_step hI.1 (by assumption), hI.2⟩) hR _ _ hB ls (lv_sub hl [3, 1, 4, 2, 0] rfl)

set_option maxHeartbeats 400000 in
set_option maxRecDepth 100000 in
theorem w_Book_lay_26 {p : Program} {e : Env} {s : State} {m : MethodId} {args : Array Value} {below : List Frame} {meth : Method} {c : Code} {RES : SC}  (π : PJ) (hC : cx D classes (tyL cI cL cQ) NWL ALLW N0 p s m args meth c b_Book_lay 5 (none) R_Book) :
    ∀ (n : Nat) (σ : SC) (v1 : Int32) (v2 : Int32), upI n (300 : Int32) v2 → lp_Book_lay_26 n σ  v1 v2 = RES → ∀ (H : Heap) (locs : List Loc), bd D classes N0 N0 (wsC G cI cL cQ σ π rest) s H locs → ∀ (ls : Array Slot), lv_has ls 5 [(0, .ref (G 0 4)), (1, .int v1), (2, .int v2)] → W p l e { frames := 3, cells := 0, slots := 0, locals := 67 } s m args below meth c H locs 0 0 (MQ below (qx D classes N0 N0 (none) (fun w => w = wsC G cI cL cQ RES π rest)) args s 0 0 (ga N0)) (F0 m 26 ls []) := by
  have hx := hC.1
  have hb := hC.2.1
  intro n
  induction n with
  | zero =>
    intro σ v1 v2 hI
    exact absurd hI up_zero
  | succ n ih =>
    intro σ v1 v2 hI hR H locs hB ls hl
    rw [lp_Book_lay_26] at hR
    refine lv_iload_n hx hb d_Book_lay_26 rfl (lv_at hl 2 rfl) ?_
    refine lv_sipush (v := 300) hx hb d_Book_lay_27 (by decide) ?_
    refine lv_icmp_ge (tgt := 124) hx hb d_Book_lay_30 (by decide) (fun c_1 => ?_) (fun c_1 => ?_)
    · rw [if_pos c_1] at hR
      subst hR
      exact rv hC hB rfl d_Book_lay_124
    · rw [if_neg c_1] at hR
      refine lv_aload_n hx hb d_Book_lay_33 rfl (lv_at hl 0 rfl) ?_
      refine gt hC hB _ lkC_Book rfl i_Book 0 (by decide) rfl kw_105 rfl d_Book_lay_34 ?_
      refine lv_aload_n hx hb d_Book_lay_37 rfl (lv_at hl 0 rfl) ?_
      refine lv_iload_n hx hb d_Book_lay_38 rfl (lv_at hl 1 rfl) ?_
      refine kV hC hB _ lkC_Book rfl (c_Book_sheetAt σ π v1) allw_ok mf_Book_sheetAt kw_221 kw_222 kw_220 ⟨rfl, rfl, Nat.le_of_ble_eq_true rfl, Nat.le_of_ble_eq_true rfl⟩ rfl rfl hl.1 (Nat.le_of_ble_eq_true rfl) d_Book_lay_39 ⟨Nat.le_of_ble_eq_true rfl, Nat.le_of_ble_eq_true rfl⟩ (roK fun H locs hB => ?_)
      refine kV hC hB _ lkC_Sheets rfl (c_Sheets_firstOn σ π (m_Book_sheetAt σ v1)) allw_ok mf_Sheets_firstOn kw_225 kw_226 kw_224 ⟨rfl, rfl, Nat.le_of_ble_eq_true rfl, Nat.le_of_ble_eq_true rfl⟩ rfl rfl hl.1 (Nat.le_of_ble_eq_true rfl) d_Book_lay_42 ⟨Nat.le_of_ble_eq_true rfl, Nat.le_of_ble_eq_true rfl⟩ (roK fun H locs hB => ?_)
      refine lv_istore_n (lv' := [(3, .int (m_Sheets_firstOn σ (m_Book_sheetAt σ v1))), (0, .ref (G 0 4)), (1, .int v1), (2, .int v2)]) hx hb d_Book_lay_45 rfl hl (by decide) rfl (fun ls hl => ?_)
      refine lv_iconst (v := 0) hx hb d_Book_lay_46 (by decide) ?_
      refine lv_istore (lv' := [(4, .int 0), (3, .int (m_Sheets_firstOn σ (m_Book_sheetAt σ v1))), (0, .ref (G 0 4)), (1, .int v1), (2, .int v2)]) hx hb d_Book_lay_47 hl (by decide) rfl (fun ls hl => ?_)
      exact w_Book_lay_49 (lp_Book_lay_26 n)  π hC ih ((24 : Int32).toNatClampNeg + 1) σ v1 v2 (m_Sheets_firstOn σ (m_Book_sheetAt σ v1)) 0 (⟨up_init _, up_step hI (by assumption)⟩) hR _ _ hB ls (lv_sub hl [2, 3, 4, 1, 0] rfl)

set_option maxHeartbeats 400000 in
set_option maxRecDepth 100000 in
theorem c_Book_lay  (σ : SC) (π : PJ)  : CM l y_Book_lay b_Book_lay 5 (none) { frames := 3, cells := 0, slots := 0, locals := 67 } D (tyL cI cL cQ) N0 N0 [.ref (G 0 4)] (wsC G cI cL cQ σ π rest) (none) (fun w => w = wsC G cI cL cQ (m_Book_lay σ) π rest) 0 0 := by
  generalize hR : m_Book_lay σ = RES
  refine met_of (own := R_Book) (by decide) rfl nwl_ok ?_
  intro p e s m below meth c hC hin hB
  have hx := hC.1
  have hb := hC.2.1
  have hl := lv_entry ([.ref (G 0 4)]) (n := 5) (Nat.le_of_ble_eq_true rfl)
  rw [lg_entry_eq]
  generalize (lg_sl ([.ref (G 0 4)]) ++ List.replicate (5 - (lg_sl ([.ref (G 0 4)])).length) Slot.unset).toArray = ls at hl ⊢
  have hl : lv_has ls 5 [(0, .ref (G 0 4))] := hl
  rw [m_Book_lay] at hR
  refine lv_aload_n hx hb d_Book_lay_0 rfl (lv_at hl 0 rfl) ?_
  refine gt hC hB _ lkC_Book rfl i_Book 6 (by decide) rfl kw_111 rfl d_Book_lay_1 ?_
  refine lv_iconst (v := 0) hx hb d_Book_lay_4 (by decide) ?_
  refine kS hC hB (c_Arrays_fillI 5 (by decide) σ π 0) allw_ok mf_Arrays_fillI kw_203 kw_202 ⟨rfl, rfl, Nat.le_of_ble_eq_true rfl, Nat.le_of_ble_eq_true rfl⟩ rfl rfl hl.1 (Nat.le_of_ble_eq_true rfl) d_Book_lay_5 ⟨Nat.le_of_ble_eq_true rfl, Nat.le_of_ble_eq_true rfl⟩ (roK fun H locs hB => ?_)
  refine lv_aload_n hx hb d_Book_lay_8 rfl (lv_at hl 0 rfl) ?_
  refine lv_iconst (v := 0) hx hb d_Book_lay_9 (by decide) ?_
  refine pt (ty := .int) rfl hC hB _ lkC_Book rfl i_Book t_Book t_Book_ok n_Book 7 (by decide) rfl rfl kw_112 (by decide +kernel) rfl rfl (Nat.le_of_ble_eq_true rfl) d_Book_lay_10 (ws' := wsC G cI cL cQ (zn (m_Arrays_fillI σ 5 0) 2 0) π rest) setC_n2 (fun H locs hB => ?_)
  refine lv_aload_n hx hb d_Book_lay_13 rfl (lv_at hl 0 rfl) ?_
  refine lv_iconst (v := 0) hx hb d_Book_lay_14 (by decide) ?_
  refine lv_iconst (v := (-1)) hx hb d_Book_lay_15 (by decide) ?_
  refine lv_iconst (v := (-1)) hx hb d_Book_lay_16 (by decide) ?_
  refine lv_iconst (v := 0) hx hb d_Book_lay_17 (by decide) ?_
  refine kV hC hB _ lkC_Book rfl (c_Book_addPage (zn (m_Arrays_fillI σ 5 0) 2 0) π 0 (-1) (-1) 0) allw_ok mf_Book_addPage kw_207 ks_0 kw_205 ⟨rfl, rfl, Nat.le_of_ble_eq_true rfl, Nat.le_of_ble_eq_true rfl⟩ rfl rfl hl.1 (Nat.le_of_ble_eq_true rfl) d_Book_lay_18 ⟨Nat.le_of_ble_eq_true rfl, Nat.le_of_ble_eq_true rfl⟩ (roK fun H locs hB => ?_)
  refine lv_pop hx hb d_Book_lay_21 rfl ?_
  refine lv_iconst (v := 0) hx hb d_Book_lay_22 (by decide) ?_
  refine lv_istore_n (lv' := [(1, .int 0), (0, .ref (G 0 4))]) hx hb d_Book_lay_23 rfl hl (by decide) rfl (fun ls hl => ?_)
  refine lv_iconst (v := 0) hx hb d_Book_lay_24 (by decide) ?_
  refine lv_istore_n (lv' := [(2, .int 0), (1, .int 0), (0, .ref (G 0 4))]) hx hb d_Book_lay_25 rfl hl (by decide) rfl (fun ls hl => ?_)
  exact w_Book_lay_26  π hC ((300 : Int32).toNatClampNeg + 1) ((m_Book_addPage (zn (m_Arrays_fillI σ 5 0) 2 0) 0 (-1) (-1) 0).2) 0 0 (up_init _) hR _ _ hB ls (lv_sub hl [2, 1, 0] rfl)
end SC
