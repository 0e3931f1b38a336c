def lp_Sheets_copyJoints_2 : Nat → SC → Int32 → Int32 → Int32 → SC
  | 0, σ, _, _, _ => σ
  | n + 1, σ, v1, v2, v3 =>
    if 32 ≤ v3 then
      σ
    else
      lp_Sheets_copyJoints_2 n (m_Sheets_setJoint σ v2 v3 (m_Sheets_jointOf σ v1 v3)) v1 v2 (v3 + 1)

def m_Sheets_copyJoints (σ : SC) (x0 : Int32) (x1 : Int32) : SC :=
  lp_Sheets_copyJoints_2 ((32 : Int32).toNatClampNeg + 1) σ x0 x1 0

def lp_Sheets_bringTo_16 : Nat → SC → Int32 → Int32 → Int32 → Int32 → Int32 × SC
  | 0, σ, _, _, _, _ => (0, σ)
  | n + 1, σ, v1, v2, v3, v4 =>
    if 32 ≤ v4 then
      (v3, σ)
    else
      if (m_Sheets_jointOf σ v1 v4) = (-1) then
        lp_Sheets_bringTo_16 n σ v1 v2 v3 (v4 + 1)
      else
        if (bi (m_Sheets_tells σ v2 (m_Sheets_jointOf σ v1 v4))) = 0 then
          lp_Sheets_bringTo_16 n (m_Sheets_setJoint σ v1 v4 (-1)) v1 v2 (v3 ||| (1 <<< (v4 &&& 31))) (v4 + 1)
        else
          lp_Sheets_bringTo_16 n σ v1 v2 v3 (v4 + 1)

def m_Sheets_bringTo (σ : SC) (x0 : Int32) (x1 : Int32) : Int32 × SC :=
  lp_Sheets_bringTo_16 ((32 : Int32).toNatClampNeg + 1) (m_Sheets_append (m_Sheets_unlink σ x0) x0 x1) x0 x1 0 0

def lp_Sheets_addSheetLike_31 : Nat → SC → Int32 → Int32 → Int32 → Int32 → Int32 × SC
  | 0, σ, _, _, _, _ => (0, σ)
  | n + 1, σ, v1, v2, v3, v4 =>
    if 60 ≤ v4 then
      (v2, σ)
    else
      if v3 = (-1) then
        (v2, σ)
      else
        lp_Sheets_addSheetLike_31 n (m_Sheets_copyJoints ((m_Sheets_addPlacement σ v2 (m_Sheets_sheetOf σ v3)).2) v3 ((m_Sheets_addPlacement σ v2 (m_Sheets_sheetOf σ v3)).1)) v1 v2 (m_Sheets_nextOf (m_Sheets_copyJoints ((m_Sheets_addPlacement σ v2 (m_Sheets_sheetOf σ v3)).2) v3 ((m_Sheets_addPlacement σ v2 (m_Sheets_sheetOf σ v3)).1)) v3) (v4 + 1)
def ct_Sheets_addSheetLike_31 : Nat → SC → Int32 → Int32 → Int32 → Int32 → Nat
  | 0, _, _, _, _, _ => 0
  | n + 1, σ, v1, v2, v3, v4 =>
    if 60 ≤ v4 then
      0
    else
      if v3 = (-1) then
        0
      else
        (1 + ct_Sheets_addSheetLike_31 n (m_Sheets_copyJoints ((m_Sheets_addPlacement σ v2 (m_Sheets_sheetOf σ v3)).2) v3 ((m_Sheets_addPlacement σ v2 (m_Sheets_sheetOf σ v3)).1)) v1 v2 (m_Sheets_nextOf (m_Sheets_copyJoints ((m_Sheets_addPlacement σ v2 (m_Sheets_sheetOf σ v3)).2) v3 ((m_Sheets_addPlacement σ v2 (m_Sheets_sheetOf σ v3)).1)) v3) (v4 + 1))

def m_Sheets_addSheetLike (σ : SC) (x0 : Int32) : Int32 × SC :=
  lp_Sheets_addSheetLike_31 ((60 : Int32).toNatClampNeg + 1) (m_Row_set ((m_Sheets_addSheet σ).2) 1 ((m_Sheets_addSheet σ).1) ((m_Row_at ((m_Sheets_addSheet σ).2) 1 x0).toInt64)) x0 ((m_Sheets_addSheet σ).1) (m_Sheets_firstOn (m_Row_set ((m_Sheets_addSheet σ).2) 1 ((m_Sheets_addSheet σ).1) ((m_Row_at ((m_Sheets_addSheet σ).2) 1 x0).toInt64)) x0) 0

def lp_Parts_addPartsLike_17 : Nat → SC → Int32 → Int32 → Int32 → Int32 → SC
  | 0, σ, _, _, _, _ => σ
  | n + 1, σ, v1, v2, v3, v4 =>
    if v3 ≤ v4 then
      σ
    else
      if (m_ST_read σ 6 (m_Parts_partAt σ v1 v4)) = (-1) then
        lp_Parts_addPartsLike_17 n (m_Parts_layGate (m_ST_write ((m_Parts_addPart σ (m_Parts_letterOf σ (m_Parts_partAt σ v1 v4)) (m_Parts_gateCount σ (m_Parts_partAt σ v1 v4))).2) 6 (m_Parts_partAt σ v1 v4) ((m_Parts_addPart σ (m_Parts_letterOf σ (m_Parts_partAt σ v1 v4)) (m_Parts_gateCount σ (m_Parts_partAt σ v1 v4))).1)) v2 (m_ST_read (m_ST_write ((m_Parts_addPart σ (m_Parts_letterOf σ (m_Parts_partAt σ v1 v4)) (m_Parts_gateCount σ (m_Parts_partAt σ v1 v4))).2) 6 (m_Parts_partAt σ v1 v4) ((m_Parts_addPart σ (m_Parts_letterOf σ (m_Parts_partAt σ v1 v4)) (m_Parts_gateCount σ (m_Parts_partAt σ v1 v4))).1)) 6 (m_Parts_partAt σ v1 v4)) ((m_Parts_gateAt (m_ST_write ((m_Parts_addPart σ (m_Parts_letterOf σ (m_Parts_partAt σ v1 v4)) (m_Parts_gateCount σ (m_Parts_partAt σ v1 v4))).2) 6 (m_Parts_partAt σ v1 v4) ((m_Parts_addPart σ (m_Parts_letterOf σ (m_Parts_partAt σ v1 v4)) (m_Parts_gateCount σ (m_Parts_partAt σ v1 v4))).1)) v1 v4) - (m_Parts_gateAt (m_ST_write ((m_Parts_addPart σ (m_Parts_letterOf σ (m_Parts_partAt σ v1 v4)) (m_Parts_gateCount σ (m_Parts_partAt σ v1 v4))).2) 6 (m_Parts_partAt σ v1 v4) ((m_Parts_addPart σ (m_Parts_letterOf σ (m_Parts_partAt σ v1 v4)) (m_Parts_gateCount σ (m_Parts_partAt σ v1 v4))).1)) v1 v4) / 8 * 8)) v1 v2 v3 (v4 + 1)
      else
        lp_Parts_addPartsLike_17 n (m_Parts_layGate σ v2 (m_ST_read σ 6 (m_Parts_partAt σ v1 v4)) ((m_Parts_gateAt σ v1 v4) - (m_Parts_gateAt σ v1 v4) / 8 * 8)) v1 v2 v3 (v4 + 1)

def m_Parts_addPartsLike (σ : SC) (x0 : Int32) (x1 : Int32) : SC :=
  lp_Parts_addPartsLike_17 ((m_Parts_gatesOn (m_Arrays_fillI σ 6 (-1)) x0).toNatClampNeg + 1) (m_Arrays_fillI σ 6 (-1)) x0 x1 (m_Parts_gatesOn (m_Arrays_fillI σ 6 (-1)) x0) 0

def lp_Variants_addTelling_63 : Nat → SC → Int32 → Int32 → Int32 → Int32 → Int32 → Int32 × SC
  | 0, σ, _, _, _, _, _ => (0, σ)
  | n + 1, σ, v1, v2, v3, v4, v5 =>
    if v5 < 0 then
      (v3, σ)
    else
      lp_Variants_addTelling_63 n (m_Row_set σ 17 ((v3 * 23) + v5) ((m_Book_placementAt σ v4).toInt64)) v1 v2 v3 (m_Book_pageAbove (m_Row_set σ 17 ((v3 * 23) + v5) ((m_Book_placementAt σ v4).toInt64)) v4) (v5 + (-1))

def m_Variants_addTelling (σ : SC) (x0 : Int32) (x1 : Int32) : Int32 × SC :=
  lp_Variants_addTelling_63 (((m_Book_depthAt (m_Row_set (m_Row_set (m_Row_set σ 12 1 (((m_Row_at σ 12 1) + 1).toInt64)) 14 (m_Row_at σ 12 1) x0.toInt64) 16 (m_Row_at σ 12 1) ((m_Book_depthAt (m_Row_set (m_Row_set σ 12 1 (((m_Row_at σ 12 1) + 1).toInt64)) 14 (m_Row_at σ 12 1) x0.toInt64) x1).toInt64)) x1) - 1).toNatClampNeg + 2) (m_Row_set (m_Row_set (m_Row_set σ 12 1 (((m_Row_at σ 12 1) + 1).toInt64)) 14 (m_Row_at σ 12 1) x0.toInt64) 16 (m_Row_at σ 12 1) ((m_Book_depthAt (m_Row_set (m_Row_set σ 12 1 (((m_Row_at σ 12 1) + 1).toInt64)) 14 (m_Row_at σ 12 1) x0.toInt64) x1).toInt64)) x0 x1 (m_Row_at σ 12 1) x1 ((m_Book_depthAt (m_Row_set (m_Row_set (m_Row_set σ 12 1 (((m_Row_at σ 12 1) + 1).toInt64)) 14 (m_Row_at σ 12 1) x0.toInt64) 16 (m_Row_at σ 12 1) ((m_Book_depthAt (m_Row_set (m_Row_set σ 12 1 (((m_Row_at σ 12 1) + 1).toInt64)) 14 (m_Row_at σ 12 1) x0.toInt64) x1).toInt64)) x1) - 1)

theorem rj_ST_write {π : PJ} {σ : SC} (h : RJ π σ) (j : Nat) (x y : Int32) : RJ π (m_ST_write σ j x y) := by
  unfold m_ST_write
  split
  · exact h
  · split <;> exact h
theorem rj_fill {π : PJ} : ∀ (n : Nat) (σ : SC) (j : Nat) (v1 v2 v3 : Int32), RJ π σ → RJ π (lp_Arrays_fillI_5 n σ j v1 v2 v3)
  | 0, _, _, _, _, _, h => h
  | n + 1, σ, j, v1, v2, v3, h => by
    rw [lp_Arrays_fillI_5]
    split
    · exact h
    · exact rj_fill n _ _ _ _ _ h
theorem rj_Arrays_fillI {π : PJ} {σ : SC} (h : RJ π σ) (j : Nat) (x : Int32) : RJ π (m_Arrays_fillI σ j x) := rj_fill _ _ _ _ _ _ h
section SC
variable {l : Launch} {D : va_G} {N0 N1 : Nat} {G : Nat → Nat → Nat} {cI cL cQ : ClassId} {rest : va_W}
set_option maxHeartbeats 400000 in
set_option maxRecDepth 100000 in
theorem w_Sheets_copyJoints_2 {p : Program} {e : Env} {s : State} {m : MethodId} {args : Array Value} {below : List Frame} {meth : Method} {c : Code} {RES : SC}  (hC : cx D classes (tyL cI cL cQ) NWL ALLW N0 p s m args meth c b_Sheets_copyJoints 4 (none) R_Sheets) :
    ∀ (n : Nat) (σ : SC) (v1 : Int32) (v2 : Int32) (v3 : Int32) (cells slots : Nat), upI n (32 : Int32) v3 → cells + 1 * n ≤ 33 → slots + 4 * n ≤ 132 → lp_Sheets_copyJoints_2 n σ  v1 v2 v3 = RES → ∀ (π : PJ) (hπ : RJ π σ) (H : Heap) (locs : List Loc), bd D classes N0 N0 (wsC G cI cL cQ σ π rest) s H locs → ∀ (ls : Array Slot), lv_has ls 4 [(0, .ref (G 0 3)), (1, .int v1), (2, .int v2), (3, .int v3)] → W p l e { frames := 5, cells := 33, slots := 132, locals := 110 } s m args below meth c H locs cells slots (MQ below (qx D classes N0 N0 (none) (pwC G cI cL cQ RES rest)) args s 33 132 (ga N0)) (F0 m 2 ls []) := by
  have hx := hC.1
  have hb := hC.2.1
  intro n
  induction n with
  | zero =>
    intro σ v1 v2 v3 cells slots hI
    exact absurd hI up_zero
  | succ n ih =>
    intro σ v1 v2 v3 cells slots hI hc1 hc2 hR π hπ H locs hB ls hl
    rw [lp_Sheets_copyJoints_2] at hR
    refine lv_iload_n hx hb d_Sheets_copyJoints_2 rfl (lv_at hl 3 rfl) ?_
    refine lv_bipush (v := 32) hx hb d_Sheets_copyJoints_3 (by decide) ?_
    refine lv_icmp_ge (tgt := 26) hx hb d_Sheets_copyJoints_5 (by decide) (fun c_1 => ?_) (fun c_1 => ?_)
    · rw [if_pos c_1] at hR
      subst hR
      refine W.widen (k := 33) (n := 132) (by (try dsimp only); omega) (by (try dsimp only); omega) ?_
      exact rv hC hB ⟨π, hπ, rfl⟩ d_Sheets_copyJoints_26
    · rw [if_neg c_1] at hR
      refine lv_aload_n hx hb d_Sheets_copyJoints_8 rfl (lv_at hl 0 rfl) ?_
      refine lv_iload_n hx hb d_Sheets_copyJoints_9 rfl (lv_at hl 2 rfl) ?_
      refine lv_iload_n hx hb d_Sheets_copyJoints_10 rfl (lv_at hl 3 rfl) ?_
      refine lv_aload_n hx hb d_Sheets_copyJoints_11 rfl (lv_at hl 0 rfl) ?_
      refine lv_iload_n hx hb d_Sheets_copyJoints_12 rfl (lv_at hl 1 rfl) ?_
      refine lv_iload_n hx hb d_Sheets_copyJoints_13 rfl (lv_at hl 3 rfl) ?_
      refine kV hC hB _ lkC_Sheets rfl (c_Sheets_jointOf σ π v1 v3) allw_ok mf_Sheets_jointOf kw_539 kw_540 kw_538 ⟨rfl, rfl, Nat.le_of_ble_eq_true rfl, Nat.le_of_ble_eq_true rfl⟩ rfl rfl hl.1 (Nat.le_of_ble_eq_true rfl) d_Sheets_copyJoints_14 (by constructor <;> (try dsimp only) <;> omega) (roK fun H locs hB => ?_)
      refine kV hC hB _ lkC_Sheets rfl (c_Sheets_setJoint σ π hπ v2 v3 (m_Sheets_jointOf σ v1 v3)) allw_ok mf_Sheets_setJoint kw_548 kw_549 kw_547 ⟨rfl, rfl, Nat.le_of_ble_eq_true rfl, Nat.le_of_ble_eq_true rfl⟩ rfl rfl hl.1 (Nat.le_of_ble_eq_true rfl) d_Sheets_copyJoints_17 (by constructor <;> (try dsimp only) <;> omega) (fun H locs w hw hB => ?_)
      obtain ⟨π, hπ, rfl⟩ := hw
      refine lv_iinc (v := (v3 + 1)) (lv' := [(3, .int (v3 + 1)), (0, .ref (G 0 3)), (1, .int v1), (2, .int v2)]) hx hb d_Sheets_copyJoints_20 hl (k := 3) rfl rfl (by decide) rfl (fun ls hl => ?_)
      refine lv_goto (tgt := 2) hx hb d_Sheets_copyJoints_23 (by decide) ?_
      exact ih (m_Sheets_setJoint σ v2 v3 (m_Sheets_jointOf σ v1 v3)) v1 v2 (v3 + 1) _ _ (up_step hI (by assumption)) (by omega) (by omega) hR π hπ _ _ hB ls (lv_sub hl [1, 2, 3, 0] rfl)

set_option maxHeartbeats 400000 in
set_option maxRecDepth 100000 in
theorem c_Sheets_copyJoints  (σ : SC) (π : PJ) (hπ : RJ π σ) (x0 : Int32) (x1 : Int32) : CM l y_Sheets_copyJoints b_Sheets_copyJoints 4 (none) { frames := 5, cells := 33, slots := 132, locals := 110 } D (tyL cI cL cQ) N0 N0 [.ref (G 0 3), .int x0, .int x1] (wsC G cI cL cQ σ π rest) (none) (pwC G cI cL cQ (m_Sheets_copyJoints σ x0 x1) rest) 33 132 := by
  generalize hR : m_Sheets_copyJoints σ x0 x1 = RES
  refine met_of (own := R_Sheets) (by decide) rfl nwl_ok ?_
  intro p e s m below meth c hC hin hB
  have hx := hC.1
  have hb := hC.2.1
  have hl := lv_entry ([.ref (G 0 3), .int x0, .int x1]) (n := 4) (Nat.le_of_ble_eq_true rfl)
  rw [lg_entry_eq]
  generalize (lg_sl ([.ref (G 0 3), .int x0, .int x1]) ++ List.replicate (4 - (lg_sl ([.ref (G 0 3), .int x0, .int x1])).length) Slot.unset).toArray = ls at hl ⊢
  have hl : lv_has ls 4 [(0, .ref (G 0 3)), (1, .int x0), (2, .int x1)] := hl
  rw [m_Sheets_copyJoints] at hR
  refine lv_iconst (v := 0) hx hb d_Sheets_copyJoints_0 (by decide) ?_
  refine lv_istore_n (lv' := [(3, .int 0), (0, .ref (G 0 3)), (1, .int x0), (2, .int x1)]) hx hb d_Sheets_copyJoints_1 rfl hl (by decide) rfl (fun ls hl => ?_)
  have hf_ : (32 : Int32).toNatClampNeg = 32 := by decide
  exact w_Sheets_copyJoints_2  hC ((32 : Int32).toNatClampNeg + 1) σ x0 x1 0 _ _ (up_init _) (by omega) (by omega) hR π hπ _ _ hB ls (lv_sub hl [1, 2, 3, 0] rfl)

set_option maxHeartbeats 400000 in
set_option maxRecDepth 100000 in
theorem w_Sheets_bringTo_16 {p : Program} {e : Env} {s : State} {m : MethodId} {args : Array Value} {below : List Frame} {meth : Method} {c : Code} {RES : Int32 × SC}  (hC : cx D classes (tyL cI cL cQ) NWL ALLW N0 p s m args meth c b_Sheets_bringTo 6 (some .int) R_Sheets) :
    ∀ (n : Nat) (σ : SC) (v1 : Int32) (v2 : Int32) (v3 : Int32) (v4 : Int32) (cells slots : Nat), upI n (32 : Int32) v4 → cells + 1 * n ≤ 37 → slots + 4 * n ≤ 148 → lp_Sheets_bringTo_16 n σ  v1 v2 v3 v4 = RES → ∀ (π : PJ) (hπ : RJ π σ) (H : Heap) (locs : List Loc), bd D classes N0 N0 (wsC G cI cL cQ σ π rest) s H locs → ∀ (ls : Array Slot), lv_has ls 6 [(0, .ref (G 0 3)), (1, .int v1), (2, .int v2), (3, .int v3), (4, .int v4)] → W p l e { frames := 5, cells := 37, slots := 148, locals := 110 } s m args below meth c H locs cells slots (MQ below (qx D classes N0 N0 (some (.int RES.1)) (pwC G cI cL cQ RES.2 rest)) args s 37 148 (ga N0)) (F0 m 16 ls []) := by
  obtain ⟨RV, RS⟩ := RES
  dsimp only
  have hx := hC.1
  have hb := hC.2.1
  intro n
  induction n with
  | zero =>
    intro σ v1 v2 v3 v4 cells slots hI
    exact absurd hI up_zero
  | succ n ih =>
    intro σ v1 v2 v3 v4 cells slots hI hc1 hc2 hR π hπ H locs hB ls hl
    rw [lp_Sheets_bringTo_16] at hR
    refine lv_iload hx hb d_Sheets_bringTo_16 (lv_at hl 4 rfl) ?_
    refine lv_bipush (v := 32) hx hb d_Sheets_bringTo_18 (by decide) ?_
    refine lv_icmp_ge (tgt := 69) hx hb d_Sheets_bringTo_20 (by decide) (fun c_1 => ?_) (fun c_1 => ?_)
    · rw [if_pos c_1] at hR
      refine lv_iload_n hx hb d_Sheets_bringTo_69 rfl (lv_at hl 3 rfl) ?_
      obtain ⟨rfl, rfl⟩ := Prod.mk.inj hR
      refine W.widen (k := 37) (n := 148) (by (try dsimp only); omega) (by (try dsimp only); omega) ?_
      exact ri hC hB ⟨π, hπ, rfl⟩ d_Sheets_bringTo_70
    · rw [if_neg c_1] at hR
      refine lv_aload_n hx hb d_Sheets_bringTo_23 rfl (lv_at hl 0 rfl) ?_
      refine lv_iload_n hx hb d_Sheets_bringTo_24 rfl (lv_at hl 1 rfl) ?_
      refine lv_iload hx hb d_Sheets_bringTo_25 (lv_at hl 4 rfl) ?_
      refine kV hC hB _ lkC_Sheets rfl (c_Sheets_jointOf σ π v1 v4) allw_ok mf_Sheets_jointOf kw_539 kw_540 kw_538 ⟨rfl, rfl, Nat.le_of_ble_eq_true rfl, Nat.le_of_ble_eq_true rfl⟩ rfl rfl hl.1 (Nat.le_of_ble_eq_true rfl) d_Sheets_bringTo_27 (by constructor <;> (try dsimp only) <;> omega) (roK fun H locs hB => ?_)
      refine lv_istore (lv' := [(5, .int (m_Sheets_jointOf σ v1 v4)), (0, .ref (G 0 3)), (1, .int v1), (2, .int v2), (3, .int v3), (4, .int v4)]) hx hb d_Sheets_bringTo_30 hl (by decide) rfl (fun ls hl => ?_)
      refine lv_iload hx hb d_Sheets_bringTo_32 (lv_at hl 0 rfl) ?_
      refine lv_iconst (v := (-1)) hx hb d_Sheets_bringTo_34 (by decide) ?_
      refine lv_icmp_eq (tgt := 63) hx hb d_Sheets_bringTo_35 (by decide) (fun c_2 => ?_) (fun c_2 => ?_)
      · rw [if_pos c_2] at hR
        refine lv_iinc (v := (v4 + 1)) (lv' := [(4, .int (v4 + 1)), (5, .int (m_Sheets_jointOf σ v1 v4)), (0, .ref (G 0 3)), (1, .int v1), (2, .int v2), (3, .int v3)]) hx hb d_Sheets_bringTo_63 hl (k := 5) rfl rfl (by decide) rfl (fun ls hl => ?_)
        refine lv_goto (tgt := 16) hx hb d_Sheets_bringTo_66 (by decide) ?_
        exact ih σ v1 v2 v3 (v4 + 1) _ _ (up_step hI (by assumption)) (by omega) (by omega) hR π hπ _ _ hB ls (lv_sub hl [2, 3, 4, 5, 0] rfl)
      · rw [if_neg c_2] at hR
        refine lv_aload_n hx hb d_Sheets_bringTo_38 rfl (lv_at hl 1 rfl) ?_
        refine lv_iload_n hx hb d_Sheets_bringTo_39 rfl (lv_at hl 3 rfl) ?_
        refine lv_iload hx hb d_Sheets_bringTo_40 (lv_at hl 0 rfl) ?_
        refine kV hC hB _ lkC_Sheets rfl (c_Sheets_tells σ π v2 (m_Sheets_jointOf σ v1 v4)) allw_ok mf_Sheets_tells kw_543 kw_544 kw_542 ⟨rfl, rfl, Nat.le_of_ble_eq_true rfl, Nat.le_of_ble_eq_true rfl⟩ rfl rfl hl.1 (Nat.le_of_ble_eq_true rfl) d_Sheets_bringTo_42 (by constructor <;> (try dsimp only) <;> omega) (roK fun H locs hB => ?_)
        refine lv_if_ne (tgt := 63) hx hb d_Sheets_bringTo_45 (by decide) (fun c_3 => ?_) (fun c_3 => ?_)
        · rw [if_neg c_3] at hR
          refine lv_iinc (v := (v4 + 1)) (lv' := [(4, .int (v4 + 1)), (5, .int (m_Sheets_jointOf σ v1 v4)), (0, .ref (G 0 3)), (1, .int v1), (2, .int v2), (3, .int v3)]) hx hb d_Sheets_bringTo_63 hl (k := 5) rfl rfl (by decide) rfl (fun ls hl => ?_)
          refine lv_goto (tgt := 16) hx hb d_Sheets_bringTo_66 (by decide) ?_
          exact ih σ v1 v2 v3 (v4 + 1) _ _ (up_step hI (by assumption)) (by omega) (by omega) hR π hπ _ _ hB ls (lv_sub hl [2, 3, 4, 5, 0] rfl)
        · rw [if_pos c_3] at hR
          refine lv_aload_n hx hb d_Sheets_bringTo_48 rfl (lv_at hl 1 rfl) ?_
          refine lv_iload_n hx hb d_Sheets_bringTo_49 rfl (lv_at hl 2 rfl) ?_
          refine lv_iload hx hb d_Sheets_bringTo_50 (lv_at hl 5 rfl) ?_
          refine lv_iconst (v := (-1)) hx hb d_Sheets_bringTo_52 (by decide) ?_
          refine kV hC hB _ lkC_Sheets rfl (c_Sheets_setJoint σ π hπ v1 v4 (-1)) allw_ok mf_Sheets_setJoint kw_548 kw_549 kw_547 ⟨rfl, rfl, Nat.le_of_ble_eq_true rfl, Nat.le_of_ble_eq_true rfl⟩ rfl rfl hl.1 (Nat.le_of_ble_eq_true rfl) d_Sheets_bringTo_53 (by constructor <;> (try dsimp only) <;> omega) (fun H locs w hw hB => ?_)
          obtain ⟨π, hπ, rfl⟩ := hw
          refine lv_iload_n hx hb d_Sheets_bringTo_56 rfl (lv_at hl 4 rfl) ?_
          refine lv_iconst (v := 1) hx hb d_Sheets_bringTo_57 (by decide) ?_
          refine lv_iload hx hb d_Sheets_bringTo_58 (lv_at hl 5 rfl) ?_
          refine lv_ishl hx hb d_Sheets_bringTo_60 ?_
          refine lv_ior hx hb d_Sheets_bringTo_61 ?_
          refine lv_istore_n (lv' := [(3, .int (v3 ||| (1 <<< (v4 &&& 31)))), (5, .int (m_Sheets_jointOf σ v1 v4)), (0, .ref (G 0 3)), (1, .int v1), (2, .int v2), (4, .int v4)]) hx hb d_Sheets_bringTo_62 rfl hl (by decide) rfl (fun ls hl => ?_)
          refine lv_iinc (v := (v4 + 1)) (lv' := [(4, .int (v4 + 1)), (3, .int (v3 ||| (1 <<< (v4 &&& 31)))), (5, .int (m_Sheets_jointOf σ v1 v4)), (0, .ref (G 0 3)), (1, .int v1), (2, .int v2)]) hx hb d_Sheets_bringTo_63 hl (k := 5) rfl rfl (by decide) rfl (fun ls hl => ?_)
          refine lv_goto (tgt := 16) hx hb d_Sheets_bringTo_66 (by decide) ?_
          exact ih (m_Sheets_setJoint σ v1 v4 (-1)) v1 v2 (v3 ||| (1 <<< (v4 &&& 31))) (v4 + 1) _ _ (up_step hI (by assumption)) (by omega) (by omega) hR π hπ _ _ hB ls (lv_sub hl [3, 4, 5, 1, 0] rfl)

set_option maxHeartbeats 400000 in
set_option maxRecDepth 100000 in
theorem c_Sheets_bringTo  (σ : SC) (π : PJ) (hπ : RJ π σ) (x0 : Int32) (x1 : Int32) : CM l y_Sheets_bringTo b_Sheets_bringTo 6 (some .int) { frames := 5, cells := 37, slots := 148, locals := 110 } D (tyL cI cL cQ) N0 N0 [.ref (G 0 3), .int x0, .int x1] (wsC G cI cL cQ σ π rest) (some (.int ((m_Sheets_bringTo σ x0 x1).1))) (pwC G cI cL cQ ((m_Sheets_bringTo σ x0 x1).2) rest) 37 148 := by
  generalize hR : m_Sheets_bringTo σ x0 x1 = RES
  obtain ⟨RV, RS⟩ := RES
  dsimp only
  refine met_of (own := R_Sheets) (by decide) rfl nwl_ok ?_
  intro p e s m below meth c hC hin hB
  have hx := hC.1
  have hb := hC.2.1
  have hl := lv_entry ([.ref (G 0 3), .int x0, .int x1]) (n := 6) (Nat.le_of_ble_eq_true rfl)
  rw [lg_entry_eq]
  generalize (lg_sl ([.ref (G 0 3), .int x0, .int x1]) ++ List.replicate (6 - (lg_sl ([.ref (G 0 3), .int x0, .int x1])).length) Slot.unset).toArray = ls at hl ⊢
  have hl : lv_has ls 6 [(0, .ref (G 0 3)), (1, .int x0), (2, .int x1)] := hl
  rw [m_Sheets_bringTo] at hR
  refine lv_aload_n hx hb d_Sheets_bringTo_0 rfl (lv_at hl 0 rfl) ?_
  refine lv_iload_n hx hb d_Sheets_bringTo_1 rfl (lv_at hl 1 rfl) ?_
  refine kV hC hB _ lkC_Sheets rfl (c_Sheets_unlink σ π hπ x0) allw_ok mf_Sheets_unlink kw_523 ks_12 kw_521 ⟨rfl, rfl, Nat.le_of_ble_eq_true rfl, Nat.le_of_ble_eq_true rfl⟩ rfl rfl hl.1 (Nat.le_of_ble_eq_true rfl) d_Sheets_bringTo_2 ⟨Nat.le_of_ble_eq_true rfl, Nat.le_of_ble_eq_true rfl⟩ (fun H locs w hw hB => ?_)
  obtain ⟨π, hπ, rfl⟩ := hw
  refine lv_aload_n hx hb d_Sheets_bringTo_5 rfl (lv_at hl 0 rfl) ?_
  refine lv_iload_n hx hb d_Sheets_bringTo_6 rfl (lv_at hl 1 rfl) ?_
  refine lv_iload_n hx hb d_Sheets_bringTo_7 rfl (lv_at hl 2 rfl) ?_
  refine kV hC hB _ lkC_Sheets rfl (c_Sheets_append (m_Sheets_unlink σ x0) π hπ x0 x1) allw_ok mf_Sheets_append kw_489 ks_8 kw_487 ⟨rfl, rfl, Nat.le_of_ble_eq_true rfl, Nat.le_of_ble_eq_true rfl⟩ rfl rfl hl.1 (Nat.le_of_ble_eq_true rfl) d_Sheets_bringTo_8 ⟨Nat.le_of_ble_eq_true rfl, Nat.le_of_ble_eq_true rfl⟩ (fun H locs w hw hB => ?_)
  obtain ⟨π, hπ, rfl⟩ := hw
  refine lv_iconst (v := 0) hx hb d_Sheets_bringTo_11 (by decide) ?_
  refine lv_istore_n (lv' := [(3, .int 0), (0, .ref (G 0 3)), (1, .int x0), (2, .int x1)]) hx hb d_Sheets_bringTo_12 rfl hl (by decide) rfl (fun ls hl => ?_)
  refine lv_iconst (v := 0) hx hb d_Sheets_bringTo_13 (by decide) ?_
  refine lv_istore (lv' := [(4, .int 0), (3, .int 0), (0, .ref (G 0 3)), (1, .int x0), (2, .int x1)]) hx hb d_Sheets_bringTo_14 hl (by decide) rfl (fun ls hl => ?_)
  have hf_ : (32 : Int32).toNatClampNeg = 32 := by decide
  exact w_Sheets_bringTo_16  hC ((32 : Int32).toNatClampNeg + 1) (m_Sheets_append (m_Sheets_unlink σ x0) x0 x1) x0 x1 0 0 _ _ (up_init _) (by omega) (by omega) hR π hπ _ _ hB ls (lv_sub hl [2, 3, 4, 1, 0] rfl)

set_option maxHeartbeats 400000 in
set_option maxRecDepth 100000 in
theorem w_Sheets_addSheetLike_31 {p : Program} {e : Env} {s : State} {m : MethodId} {args : Array Value} {below : List Frame} {meth : Method} {c : Code} {RES : Int32 × SC} {MC : Nat}  (hC : cx D classes (tyL cI cL cQ) NWL ALLW N0 p s m args meth c b_Sheets_addSheetLike 5 (some .int) R_Sheets) :
    ∀ (n : Nat) (σ : SC) (v1 : Int32) (v2 : Int32) (v3 : Int32) (v4 : Int32) (cells slots : Nat), upI n (60 : Int32) v4 → cells + 37 * ct_Sheets_addSheetLike_31 n σ  v1 v2 v3 v4 ≤ MC → slots + 148 * ct_Sheets_addSheetLike_31 n σ  v1 v2 v3 v4 ≤ (4 * MC) → lp_Sheets_addSheetLike_31 n σ  v1 v2 v3 v4 = RES → ∀ (π : PJ) (hπ : RJ π σ) (H : Heap) (locs : List Loc), bd D classes N0 N0 (wsC G cI cL cQ σ π rest) s H locs → ∀ (ls : Array Slot), lv_has ls 5 [(0, .ref (G 0 3)), (1, .int v1), (2, .int v2), (3, .int v3), (4, .int v4)] → W p l e { frames := 6, cells := MC, slots := 4 * MC, locals := 133 } s m args below meth c H locs cells slots (MQ below (qx D classes N0 N0 (some (.int RES.1)) (pwC G cI cL cQ RES.2 rest)) args s MC (4 * MC) (ga N0)) (F0 m 31 ls []) := by
  obtain ⟨RV, RS⟩ := RES
  dsimp only
  have hx := hC.1
  have hb := hC.2.1
  intro n
  induction n with
  | zero =>
    intro σ v1 v2 v3 v4 cells slots hI
    exact absurd hI up_zero
  | succ n ih =>
    intro σ v1 v2 v3 v4 cells slots hI hc1 hc2 hR π hπ H locs hB ls hl
    rw [lp_Sheets_addSheetLike_31] at hR
    rw [ct_Sheets_addSheetLike_31] at hc1 hc2
    refine lv_iload hx hb d_Sheets_addSheetLike_31 (lv_at hl 4 rfl) ?_
    refine lv_bipush (v := 60) hx hb d_Sheets_addSheetLike_33 (by decide) ?_
    refine lv_icmp_ge (tgt := 70) hx hb d_Sheets_addSheetLike_35 (by decide) (fun c_1 => ?_) (fun c_1 => ?_)
    · rw [if_pos c_1] at hR hc1 hc2
      refine lv_iload_n hx hb d_Sheets_addSheetLike_70 rfl (lv_at hl 2 rfl) ?_
      obtain ⟨rfl, rfl⟩ := Prod.mk.inj hR
      refine W.widen (k := MC) (n := (4 * MC)) (by (try dsimp only); omega) (by (try dsimp only); omega) ?_
      exact ri hC hB ⟨π, hπ, rfl⟩ d_Sheets_addSheetLike_71
    · rw [if_neg c_1] at hR hc1 hc2
      refine lv_iload_n hx hb d_Sheets_addSheetLike_38 rfl (lv_at hl 3 rfl) ?_
      refine lv_iconst (v := (-1)) hx hb d_Sheets_addSheetLike_39 (by decide) ?_
      refine lv_icmp_eq (tgt := 70) hx hb d_Sheets_addSheetLike_40 (by decide) (fun c_2 => ?_) (fun c_2 => ?_)
      · rw [if_pos c_2] at hR hc1 hc2
        refine lv_iload_n hx hb d_Sheets_addSheetLike_70 rfl (lv_at hl 2 rfl) ?_
        obtain ⟨rfl, rfl⟩ := Prod.mk.inj hR
        refine W.widen (k := MC) (n := (4 * MC)) (by (try dsimp only); omega) (by (try dsimp only); omega) ?_
        exact ri hC hB ⟨π, hπ, rfl⟩ d_Sheets_addSheetLike_71
      · rw [if_neg c_2] at hR hc1 hc2
        refine lv_aload_n hx hb d_Sheets_addSheetLike_43 rfl (lv_at hl 0 rfl) ?_
        refine lv_iload_n hx hb d_Sheets_addSheetLike_44 rfl (lv_at hl 3 rfl) ?_
        refine lv_aload_n hx hb d_Sheets_addSheetLike_45 rfl (lv_at hl 0 rfl) ?_
        refine lv_iload_n hx hb d_Sheets_addSheetLike_46 rfl (lv_at hl 2 rfl) ?_
        refine lv_aload_n hx hb d_Sheets_addSheetLike_47 rfl (lv_at hl 0 rfl) ?_
        refine lv_iload_n hx hb d_Sheets_addSheetLike_48 rfl (lv_at hl 3 rfl) ?_
        refine kV hC hB _ lkC_Sheets rfl (c_Sheets_sheetOf σ π v3) allw_ok mf_Sheets_sheetOf kw_249 kw_250 kw_482 ⟨rfl, rfl, Nat.le_of_ble_eq_true rfl, Nat.le_of_ble_eq_true rfl⟩ rfl rfl hl.1 (Nat.le_of_ble_eq_true rfl) d_Sheets_addSheetLike_49 (by constructor <;> (try dsimp only) <;> omega) (roK fun H locs hB => ?_)
        refine kV hC hB _ lkC_Sheets rfl (c_Sheets_addPlacement σ π hπ v2 (m_Sheets_sheetOf σ v3)) allw_ok mf_Sheets_addPlacement kw_484 kw_485 kw_689 ⟨rfl, rfl, Nat.le_of_ble_eq_true rfl, Nat.le_of_ble_eq_true rfl⟩ rfl rfl hl.1 (Nat.le_of_ble_eq_true rfl) d_Sheets_addSheetLike_52 (by constructor <;> (try dsimp only) <;> omega) (fun H locs w hw hB => ?_)
        obtain ⟨π, hπ, rfl⟩ := hw
        refine kV hC hB _ lkC_Sheets rfl (c_Sheets_copyJoints ((m_Sheets_addPlacement σ v2 (m_Sheets_sheetOf σ v3)).2) π hπ v3 ((m_Sheets_addPlacement σ v2 (m_Sheets_sheetOf σ v3)).1)) allw_ok mf_Sheets_copyJoints kw_692 ks_18 kw_690 ⟨rfl, rfl, Nat.le_of_ble_eq_true rfl, Nat.le_of_ble_eq_true rfl⟩ rfl rfl hl.1 (Nat.le_of_ble_eq_true rfl) d_Sheets_addSheetLike_55 (by constructor <;> (try dsimp only) <;> omega) (fun H locs w hw hB => ?_)
        obtain ⟨π, hπ, rfl⟩ := hw
        refine lv_aload_n hx hb d_Sheets_addSheetLike_58 rfl (lv_at hl 0 rfl) ?_
        refine lv_iload_n hx hb d_Sheets_addSheetLike_59 rfl (lv_at hl 3 rfl) ?_
        refine kV hC hB _ lkC_Sheets rfl (c_Sheets_nextOf (m_Sheets_copyJoints ((m_Sheets_addPlacement σ v2 (m_Sheets_sheetOf σ v3)).2) v3 ((m_Sheets_addPlacement σ v2 (m_Sheets_sheetOf σ v3)).1)) π v3) allw_ok mf_Sheets_nextOf kw_241 kw_242 kw_525 ⟨rfl, rfl, Nat.le_of_ble_eq_true rfl, Nat.le_of_ble_eq_true rfl⟩ rfl rfl hl.1 (Nat.le_of_ble_eq_true rfl) d_Sheets_addSheetLike_60 (by constructor <;> (try dsimp only) <;> omega) (roK fun H locs hB => ?_)
        refine lv_istore_n (lv' := [(3, .int (m_Sheets_nextOf (m_Sheets_copyJoints ((m_Sheets_addPlacement σ v2 (m_Sheets_sheetOf σ v3)).2) v3 ((m_Sheets_addPlacement σ v2 (m_Sheets_sheetOf σ v3)).1)) v3)), (0, .ref (G 0 3)), (1, .int v1), (2, .int v2), (4, .int v4)]) hx hb d_Sheets_addSheetLike_63 rfl hl (by decide) rfl (fun ls hl => ?_)
        refine lv_iinc (v := (v4 + 1)) (lv' := [(4, .int (v4 + 1)), (3, .int (m_Sheets_nextOf (m_Sheets_copyJoints ((m_Sheets_addPlacement σ v2 (m_Sheets_sheetOf σ v3)).2) v3 ((m_Sheets_addPlacement σ v2 (m_Sheets_sheetOf σ v3)).1)) v3)), (0, .ref (G 0 3)), (1, .int v1), (2, .int v2)]) hx hb d_Sheets_addSheetLike_64 hl (k := 4) rfl rfl (by decide) rfl (fun ls hl => ?_)
        refine lv_goto (tgt := 31) hx hb d_Sheets_addSheetLike_67 (by decide) ?_
        exact ih (m_Sheets_copyJoints ((m_Sheets_addPlacement σ v2 (m_Sheets_sheetOf σ v3)).2) v3 ((m_Sheets_addPlacement σ v2 (m_Sheets_sheetOf σ v3)).1)) v1 v2 (m_Sheets_nextOf (m_Sheets_copyJoints ((m_Sheets_addPlacement σ v2 (m_Sheets_sheetOf σ v3)).2) v3 ((m_Sheets_addPlacement σ v2 (m_Sheets_sheetOf σ v3)).1)) v3) (v4 + 1) _ _ (up_step hI (by assumption)) (by omega) (by omega) hR π hπ _ _ hB ls (lv_sub hl [2, 3, 4, 1, 0] rfl)

set_option maxHeartbeats 400000 in
set_option maxRecDepth 100000 in
theorem c_Sheets_addSheetLike  (σ : SC) (π : PJ) (hπ : RJ π σ) (x0 : Int32) : CM l y_Sheets_addSheetLike b_Sheets_addSheetLike 5 (some .int) { frames := 6, cells := (2 + 37 * ct_Sheets_addSheetLike_31 ((60 : Int32).toNatClampNeg + 1) (m_Row_set ((m_Sheets_addSheet σ).2) 1 ((m_Sheets_addSheet σ).1) ((m_Row_at ((m_Sheets_addSheet σ).2) 1 x0).toInt64)) x0 ((m_Sheets_addSheet σ).1) (m_Sheets_firstOn (m_Row_set ((m_Sheets_addSheet σ).2) 1 ((m_Sheets_addSheet σ).1) ((m_Row_at ((m_Sheets_addSheet σ).2) 1 x0).toInt64)) x0) 0), slots := (4 * (2 + 37 * ct_Sheets_addSheetLike_31 ((60 : Int32).toNatClampNeg + 1) (m_Row_set ((m_Sheets_addSheet σ).2) 1 ((m_Sheets_addSheet σ).1) ((m_Row_at ((m_Sheets_addSheet σ).2) 1 x0).toInt64)) x0 ((m_Sheets_addSheet σ).1) (m_Sheets_firstOn (m_Row_set ((m_Sheets_addSheet σ).2) 1 ((m_Sheets_addSheet σ).1) ((m_Row_at ((m_Sheets_addSheet σ).2) 1 x0).toInt64)) x0) 0)), locals := 133 } D (tyL cI cL cQ) N0 N0 [.ref (G 0 3), .int x0] (wsC G cI cL cQ σ π rest) (some (.int ((m_Sheets_addSheetLike σ x0).1))) (pwC G cI cL cQ ((m_Sheets_addSheetLike σ x0).2) rest) (2 + 37 * ct_Sheets_addSheetLike_31 ((60 : Int32).toNatClampNeg + 1) (m_Row_set ((m_Sheets_addSheet σ).2) 1 ((m_Sheets_addSheet σ).1) ((m_Row_at ((m_Sheets_addSheet σ).2) 1 x0).toInt64)) x0 ((m_Sheets_addSheet σ).1) (m_Sheets_firstOn (m_Row_set ((m_Sheets_addSheet σ).2) 1 ((m_Sheets_addSheet σ).1) ((m_Row_at ((m_Sheets_addSheet σ).2) 1 x0).toInt64)) x0) 0) (4 * (2 + 37 * ct_Sheets_addSheetLike_31 ((60 : Int32).toNatClampNeg + 1) (m_Row_set ((m_Sheets_addSheet σ).2) 1 ((m_Sheets_addSheet σ).1) ((m_Row_at ((m_Sheets_addSheet σ).2) 1 x0).toInt64)) x0 ((m_Sheets_addSheet σ).1) (m_Sheets_firstOn (m_Row_set ((m_Sheets_addSheet σ).2) 1 ((m_Sheets_addSheet σ).1) ((m_Row_at ((m_Sheets_addSheet σ).2) 1 x0).toInt64)) x0) 0)) := by
  generalize hR : m_Sheets_addSheetLike σ x0 = RES
  obtain ⟨RV, RS⟩ := RES
  dsimp only
  refine met_of (own := R_Sheets) (by decide) rfl nwl_ok ?_
  intro p e s m below meth c hC hin hB
  have hx := hC.1
  have hb := hC.2.1
  have hl := lv_entry ([.ref (G 0 3), .int x0]) (n := 5) (Nat.le_of_ble_eq_true rfl)
  rw [lg_entry_eq]
  generalize (lg_sl ([.ref (G 0 3), .int x0]) ++ List.replicate (5 - (lg_sl ([.ref (G 0 3), .int x0])).length) Slot.unset).toArray = ls at hl ⊢
  have hl : lv_has ls 5 [(0, .ref (G 0 3)), (1, .int x0)] := hl
  rw [m_Sheets_addSheetLike] at hR
  refine lv_aload_n hx hb d_Sheets_addSheetLike_0 rfl (lv_at hl 0 rfl) ?_
  refine kV hC hB _ lkC_Sheets rfl (c_Sheets_addSheet σ π hπ) allw_ok mf_Sheets_addSheet kw_287 kw_288 kw_688 ⟨rfl, rfl, Nat.le_of_ble_eq_true rfl, Nat.le_of_ble_eq_true rfl⟩ rfl rfl hl.1 (Nat.le_of_ble_eq_true rfl) d_Sheets_addSheetLike_1 (by constructor <;> (try dsimp only) <;> omega) (fun H locs w hw hB => ?_)
  obtain ⟨π, hπ, rfl⟩ := hw
  refine lv_istore_n (lv' := [(2, .int ((m_Sheets_addSheet σ).1)), (0, .ref (G 0 3)), (1, .int x0)]) hx hb d_Sheets_addSheetLike_4 rfl hl (by decide) rfl (fun ls hl => ?_)
  refine lv_aload_n hx hb d_Sheets_addSheetLike_5 rfl (lv_at hl 1 rfl) ?_
  refine gt hC hB _ lkC_Sheets rfl i_Sheets 1 (by decide) rfl kw_81 rfl d_Sheets_addSheetLike_6 ?_
  refine lv_iload_n hx hb d_Sheets_addSheetLike_9 rfl (lv_at hl 0 rfl) ?_
  refine lv_aload_n hx hb d_Sheets_addSheetLike_10 rfl (lv_at hl 1 rfl) ?_
  refine gt hC hB _ lkC_Sheets rfl i_Sheets 1 (by decide) rfl kw_81 rfl d_Sheets_addSheetLike_11 ?_
  refine lv_iload_n hx hb d_Sheets_addSheetLike_14 rfl (lv_at hl 2 rfl) ?_
  refine kV hC hB _ (lkC_row (by decide)) rfl (c_Row_at 1 (by decide) ((m_Sheets_addSheet σ).2) π x0) allw_ok mf_Row_at kw_233 kw_234 kw_232 ⟨rfl, rfl, Nat.le_of_ble_eq_true rfl, Nat.le_of_ble_eq_true rfl⟩ rfl rfl hl.1 (Nat.le_of_ble_eq_true rfl) d_Sheets_addSheetLike_15 (by constructor <;> (try dsimp only) <;> omega) (roK fun H locs hB => ?_)
  refine lv_i2l hx hb d_Sheets_addSheetLike_18 rfl ?_
  refine kV hC hB _ (lkC_row (by decide)) rfl (c_Row_set 1 (by decide) ((m_Sheets_addSheet σ).2) π hπ ((m_Sheets_addSheet σ).1) ((m_Row_at ((m_Sheets_addSheet σ).2) 1 x0).toInt64)) allw_ok mf_Row_set kw_292 kw_293 kw_291 ⟨rfl, rfl, Nat.le_of_ble_eq_true rfl, Nat.le_of_ble_eq_true rfl⟩ rfl rfl hl.1 (Nat.le_of_ble_eq_true rfl) d_Sheets_addSheetLike_19 (by constructor <;> (try dsimp only) <;> omega) (fun H locs w hw hB => ?_)
  obtain ⟨π, hπ, rfl⟩ := hw
  refine lv_aload_n hx hb d_Sheets_addSheetLike_22 rfl (lv_at hl 1 rfl) ?_
  refine lv_iload_n hx hb d_Sheets_addSheetLike_23 rfl (lv_at hl 2 rfl) ?_
  refine kV hC hB _ lkC_Sheets rfl (c_Sheets_firstOn (m_Row_set ((m_Sheets_addSheet σ).2) 1 ((m_Sheets_addSheet σ).1) ((m_Row_at ((m_Sheets_addSheet σ).2) 1 x0).toInt64)) π x0) allw_ok mf_Sheets_firstOn kw_225 kw_226 kw_668 ⟨rfl, rfl, Nat.le_of_ble_eq_true rfl, Nat.le_of_ble_eq_true rfl⟩ rfl rfl hl.1 (Nat.le_of_ble_eq_true rfl) d_Sheets_addSheetLike_24 (by constructor <;> (try dsimp only) <;> omega) (roK fun H locs hB => ?_)
  refine lv_istore_n (lv' := [(3, .int (m_Sheets_firstOn (m_Row_set ((m_Sheets_addSheet σ).2) 1 ((m_Sheets_addSheet σ).1) ((m_Row_at ((m_Sheets_addSheet σ).2) 1 x0).toInt64)) x0)), (2, .int ((m_Sheets_addSheet σ).1)), (0, .ref (G 0 3)), (1, .int x0)]) hx hb d_Sheets_addSheetLike_27 rfl hl (by decide) rfl (fun ls hl => ?_)
  refine lv_iconst (v := 0) hx hb d_Sheets_addSheetLike_28 (by decide) ?_
  refine lv_istore (lv' := [(4, .int 0), (3, .int (m_Sheets_firstOn (m_Row_set ((m_Sheets_addSheet σ).2) 1 ((m_Sheets_addSheet σ).1) ((m_Row_at ((m_Sheets_addSheet σ).2) 1 x0).toInt64)) x0)), (2, .int ((m_Sheets_addSheet σ).1)), (0, .ref (G 0 3)), (1, .int x0)]) hx hb d_Sheets_addSheetLike_29 hl (by decide) rfl (fun ls hl => ?_)
  exact w_Sheets_addSheetLike_31  hC ((60 : Int32).toNatClampNeg + 1) (m_Row_set ((m_Sheets_addSheet σ).2) 1 ((m_Sheets_addSheet σ).1) ((m_Row_at ((m_Sheets_addSheet σ).2) 1 x0).toInt64)) x0 ((m_Sheets_addSheet σ).1) (m_Sheets_firstOn (m_Row_set ((m_Sheets_addSheet σ).2) 1 ((m_Sheets_addSheet σ).1) ((m_Row_at ((m_Sheets_addSheet σ).2) 1 x0).toInt64)) x0) 0 _ _ (up_init _) (by omega) (by omega) hR π hπ _ _ hB ls (lv_sub hl [3, 4, 2, 1, 0] rfl)

set_option maxHeartbeats 400000 in
set_option maxRecDepth 100000 in
theorem w_Parts_addPartsLike_17 {p : Program} {e : Env} {s : State} {m : MethodId} {args : Array Value} {below : List Frame} {meth : Method} {c : Code} {RES : SC} {MC : Nat}  (hC : cx D classes (tyL cI cL cQ) NWL ALLW N0 p s m args meth c b_Parts_addPartsLike 6 (none) R_Parts) :
    ∀ (n : Nat) (σ : SC) (v1 : Int32) (v2 : Int32) (v3 : Int32) (v4 : Int32) (cells slots : Nat), upI n v3 v4 → cells + 6 * n ≤ MC → slots + 24 * n ≤ (4 * MC) → lp_Parts_addPartsLike_17 n σ  v1 v2 v3 v4 = RES → ∀ (π : PJ) (hπ : RJ π σ) (H : Heap) (locs : List Loc), bd D classes N0 N0 (wsC G cI cL cQ σ π rest) s H locs → ∀ (ls : Array Slot), lv_has ls 6 [(0, .ref (G 0 5)), (1, .int v1), (2, .int v2), (3, .int v3), (4, .int v4)] → W p l e { frames := 5, cells := MC, slots := 4 * MC, locals := 111 } s m args below meth c H locs cells slots (MQ below (qx D classes N0 N0 (none) (pwC G cI cL cQ RES rest)) args s MC (4 * MC) (ga N0)) (F0 m 17 ls []) := by
  have hx := hC.1
  have hb := hC.2.1
  intro n
  induction n with
  | zero =>
    intro σ v1 v2 v3 v4 cells slots hI
    exact absurd hI up_zero
  | succ n ih =>
    intro σ v1 v2 v3 v4 cells slots hI hc1 hc2 hR π hπ H locs hB ls hl
    rw [lp_Parts_addPartsLike_17] at hR
    refine lv_iload hx hb d_Parts_addPartsLike_17 (lv_at hl 4 rfl) ?_
    refine lv_iload_n hx hb d_Parts_addPartsLike_19 rfl (lv_at hl 3 rfl) ?_
    refine lv_icmp_ge (tgt := 100) hx hb d_Parts_addPartsLike_20 (by decide) (fun c_1 => ?_) (fun c_1 => ?_)
    · rw [if_pos c_1] at hR
      subst hR
      refine W.widen (k := MC) (n := (4 * MC)) (by (try dsimp only); omega) (by (try dsimp only); omega) ?_
      exact rv hC hB ⟨π, hπ, rfl⟩ d_Parts_addPartsLike_100
    · rw [if_neg c_1] at hR
      refine lv_aload_n hx hb d_Parts_addPartsLike_23 rfl (lv_at hl 0 rfl) ?_
      refine lv_iload_n hx hb d_Parts_addPartsLike_24 rfl (lv_at hl 1 rfl) ?_
      refine lv_iload hx hb d_Parts_addPartsLike_25 (lv_at hl 4 rfl) ?_
      refine kV hC hB _ lkC_Parts rfl (c_Parts_partAt σ π v1 v4) allw_ok mf_Parts_partAt kw_676 ks_16 kw_674 ⟨rfl, rfl, Nat.le_of_ble_eq_true rfl, Nat.le_of_ble_eq_true rfl⟩ rfl rfl hl.1 (Nat.le_of_ble_eq_true rfl) d_Parts_addPartsLike_27 (by constructor <;> (try dsimp only) <;> omega) (roK fun H locs hB => ?_)
      refine lv_istore (lv' := [(5, .int (m_Parts_partAt σ v1 v4)), (0, .ref (G 0 5)), (1, .int v1), (2, .int v2), (3, .int v3), (4, .int v4)]) hx hb d_Parts_addPartsLike_30 hl (by decide) rfl (fun ls hl => ?_)
      refine lv_aload_n hx hb d_Parts_addPartsLike_32 rfl (lv_at hl 1 rfl) ?_
      refine gt hC hB _ lkC_Parts rfl i_Parts 7 (by decide) rfl kw_147 rfl d_Parts_addPartsLike_33 ?_
      refine lv_iload hx hb d_Parts_addPartsLike_36 (lv_at hl 0 rfl) ?_
      refine kSN hC hB (c_ST_read 6 (by decide) σ π (m_Parts_partAt σ v1 v4)) allw_ok mf_ST_read kw_217 nw_6 ⟨rfl, rfl, Nat.le_of_ble_eq_true rfl, Nat.le_of_ble_eq_true rfl⟩ rfl rfl hl.1 (Nat.le_of_ble_eq_true rfl) d_Parts_addPartsLike_38 (by constructor <;> (try dsimp only) <;> omega) (roK fun H locs hB => ?_)
      refine lv_iconst (v := (-1)) hx hb d_Parts_addPartsLike_41 (by decide) ?_
      refine lv_icmp_ne (tgt := 70) hx hb d_Parts_addPartsLike_42 (by decide) (fun c_2 => ?_) (fun c_2 => ?_)
      · rw [if_neg c_2] at hR
        refine lv_aload_n hx hb d_Parts_addPartsLike_70 rfl (lv_at hl 1 rfl) ?_
        refine lv_iload_n hx hb d_Parts_addPartsLike_71 rfl (lv_at hl 3 rfl) ?_
        refine lv_aload_n hx hb d_Parts_addPartsLike_72 rfl (lv_at hl 1 rfl) ?_
        refine gt hC hB _ lkC_Parts rfl i_Parts 7 (by decide) rfl kw_147 rfl d_Parts_addPartsLike_73 ?_
        refine lv_iload hx hb d_Parts_addPartsLike_76 (lv_at hl 0 rfl) ?_
        refine kSN hC hB (c_ST_read 6 (by decide) σ π (m_Parts_partAt σ v1 v4)) allw_ok mf_ST_read kw_217 nw_6 ⟨rfl, rfl, Nat.le_of_ble_eq_true rfl, Nat.le_of_ble_eq_true rfl⟩ rfl rfl hl.1 (Nat.le_of_ble_eq_true rfl) d_Parts_addPartsLike_78 (by constructor <;> (try dsimp only) <;> omega) (roK fun H locs hB => ?_)
        refine lv_aload_n hx hb d_Parts_addPartsLike_81 rfl (lv_at hl 1 rfl) ?_
        refine lv_iload_n hx hb d_Parts_addPartsLike_82 rfl (lv_at hl 2 rfl) ?_
        refine lv_iload hx hb d_Parts_addPartsLike_83 (lv_at hl 5 rfl) ?_
        refine kV hC hB _ lkC_Parts rfl (c_Parts_gateAt σ π v1 v4) allw_ok mf_Parts_gateAt kw_680 ks_17 kw_678 ⟨rfl, rfl, Nat.le_of_ble_eq_true rfl, Nat.le_of_ble_eq_true rfl⟩ rfl rfl hl.1 (Nat.le_of_ble_eq_true rfl) d_Parts_addPartsLike_85 (by constructor <;> (try dsimp only) <;> omega) (roK fun H locs hB => ?_)
        refine lv_bipush (v := 8) hx hb d_Parts_addPartsLike_88 (by decide) ?_
        refine lv_irem hx hb d_Parts_addPartsLike_90 (by decide) ?_
        refine kV hC hB _ lkC_Parts rfl (c_Parts_layGate σ π hπ v2 (m_ST_read σ 6 (m_Parts_partAt σ v1 v4)) ((m_Parts_gateAt σ v1 v4) - (m_Parts_gateAt σ v1 v4) / 8 * 8)) allw_ok mf_Parts_layGate kw_653 kw_654 kw_704 ⟨rfl, rfl, Nat.le_of_ble_eq_true rfl, Nat.le_of_ble_eq_true rfl⟩ rfl rfl hl.1 (Nat.le_of_ble_eq_true rfl) d_Parts_addPartsLike_91 (by constructor <;> (try dsimp only) <;> omega) (fun H locs w hw hB => ?_)
        obtain ⟨π, hπ, rfl⟩ := hw
        refine lv_iinc (v := (v4 + 1)) (lv' := [(4, .int (v4 + 1)), (5, .int (m_Parts_partAt σ v1 v4)), (0, .ref (G 0 5)), (1, .int v1), (2, .int v2), (3, .int v3)]) hx hb d_Parts_addPartsLike_94 hl (k := 5) rfl rfl (by decide) rfl (fun ls hl => ?_)
        refine lv_goto (tgt := 17) hx hb d_Parts_addPartsLike_97 (by decide) ?_
        exact ih (m_Parts_layGate σ v2 (m_ST_read σ 6 (m_Parts_partAt σ v1 v4)) ((m_Parts_gateAt σ v1 v4) - (m_Parts_gateAt σ v1 v4) / 8 * 8)) v1 v2 v3 (v4 + 1) _ _ (up_step hI (by assumption)) (by omega) (by omega) hR π hπ _ _ hB ls (lv_sub hl [2, 3, 4, 5, 0] rfl)
      · rw [if_pos c_2] at hR
        refine lv_aload_n hx hb d_Parts_addPartsLike_45 rfl (lv_at hl 1 rfl) ?_
        refine gt hC hB _ lkC_Parts rfl i_Parts 7 (by decide) rfl kw_147 rfl d_Parts_addPartsLike_46 ?_
        refine lv_iload hx hb d_Parts_addPartsLike_49 (lv_at hl 0 rfl) ?_
        refine lv_aload_n hx hb d_Parts_addPartsLike_51 rfl (lv_at hl 1 rfl) ?_
        refine lv_aload_n hx hb d_Parts_addPartsLike_52 rfl (lv_at hl 1 rfl) ?_
        refine lv_iload hx hb d_Parts_addPartsLike_53 (lv_at hl 0 rfl) ?_
        refine kV hC hB _ lkC_Parts rfl (c_Parts_letterOf σ π (m_Parts_partAt σ v1 v4)) allw_ok mf_Parts_letterOf kw_699 kw_700 kw_698 ⟨rfl, rfl, Nat.le_of_ble_eq_true rfl, Nat.le_of_ble_eq_true rfl⟩ rfl rfl hl.1 (Nat.le_of_ble_eq_true rfl) d_Parts_addPartsLike_55 (by constructor <;> (try dsimp only) <;> omega) (roK fun H locs hB => ?_)
        refine lv_aload_n hx hb d_Parts_addPartsLike_58 rfl (lv_at hl 1 rfl) ?_
        refine lv_iload hx hb d_Parts_addPartsLike_59 (lv_at hl 0 rfl) ?_
        refine kV hC hB _ lkC_Parts rfl (c_Parts_gateCount σ π (m_Parts_partAt σ v1 v4)) allw_ok mf_Parts_gateCount kw_640 kw_641 kw_702 ⟨rfl, rfl, Nat.le_of_ble_eq_true rfl, Nat.le_of_ble_eq_true rfl⟩ rfl rfl hl.1 (Nat.le_of_ble_eq_true rfl) d_Parts_addPartsLike_61 (by constructor <;> (try dsimp only) <;> omega) (roK fun H locs hB => ?_)
        refine kV hC hB _ lkC_Parts rfl (c_Parts_addPart σ π hπ (m_Parts_letterOf σ (m_Parts_partAt σ v1 v4)) (m_Parts_gateCount σ (m_Parts_partAt σ v1 v4))) allw_ok mf_Parts_addPart kw_615 kw_616 kw_703 ⟨rfl, rfl, Nat.le_of_ble_eq_true rfl, Nat.le_of_ble_eq_true rfl⟩ rfl rfl hl.1 (Nat.le_of_ble_eq_true rfl) d_Parts_addPartsLike_64 (by constructor <;> (try dsimp only) <;> omega) (fun H locs w hw hB => ?_)
        obtain ⟨π, hπ, rfl⟩ := hw
        refine kSN hC hB (c_ST_write 6 (by decide) ((m_Parts_addPart σ (m_Parts_letterOf σ (m_Parts_partAt σ v1 v4)) (m_Parts_gateCount σ (m_Parts_partAt σ v1 v4))).2) π (m_Parts_partAt σ v1 v4) ((m_Parts_addPart σ (m_Parts_letterOf σ (m_Parts_partAt σ v1 v4)) (m_Parts_gateCount σ (m_Parts_partAt σ v1 v4))).1)) allw_ok mf_ST_write kw_210 nw_7 ⟨rfl, rfl, Nat.le_of_ble_eq_true rfl, Nat.le_of_ble_eq_true rfl⟩ rfl rfl hl.1 (Nat.le_of_ble_eq_true rfl) d_Parts_addPartsLike_67 (by constructor <;> (try dsimp only) <;> omega) (roK fun H locs hB => ?_)
        have hπ : RJ π (m_ST_write ((m_Parts_addPart σ (m_Parts_letterOf σ (m_Parts_partAt σ v1 v4)) (m_Parts_gateCount σ (m_Parts_partAt σ v1 v4))).2) 6 (m_Parts_partAt σ v1 v4) ((m_Parts_addPart σ (m_Parts_letterOf σ (m_Parts_partAt σ v1 v4)) (m_Parts_gateCount σ (m_Parts_partAt σ v1 v4))).1)) := rj_ST_write hπ 6 (m_Parts_partAt σ v1 v4) ((m_Parts_addPart σ (m_Parts_letterOf σ (m_Parts_partAt σ v1 v4)) (m_Parts_gateCount σ (m_Parts_partAt σ v1 v4))).1)
        refine lv_aload_n hx hb d_Parts_addPartsLike_70 rfl (lv_at hl 1 rfl) ?_
        refine lv_iload_n hx hb d_Parts_addPartsLike_71 rfl (lv_at hl 3 rfl) ?_
        refine lv_aload_n hx hb d_Parts_addPartsLike_72 rfl (lv_at hl 1 rfl) ?_
        refine gt hC hB _ lkC_Parts rfl i_Parts 7 (by decide) rfl kw_147 rfl d_Parts_addPartsLike_73 ?_
        refine lv_iload hx hb d_Parts_addPartsLike_76 (lv_at hl 0 rfl) ?_
        refine kSN hC hB (c_ST_read 6 (by decide) (m_ST_write ((m_Parts_addPart σ (m_Parts_letterOf σ (m_Parts_partAt σ v1 v4)) (m_Parts_gateCount σ (m_Parts_partAt σ v1 v4))).2) 6 (m_Parts_partAt σ v1 v4) ((m_Parts_addPart σ (m_Parts_letterOf σ (m_Parts_partAt σ v1 v4)) (m_Parts_gateCount σ (m_Parts_partAt σ v1 v4))).1)) π (m_Parts_partAt σ v1 v4)) allw_ok mf_ST_read kw_217 nw_6 ⟨rfl, rfl, Nat.le_of_ble_eq_true rfl, Nat.le_of_ble_eq_true rfl⟩ rfl rfl hl.1 (Nat.le_of_ble_eq_true rfl) d_Parts_addPartsLike_78 (by constructor <;> (try dsimp only) <;> omega) (roK fun H locs hB => ?_)
        refine lv_aload_n hx hb d_Parts_addPartsLike_81 rfl (lv_at hl 1 rfl) ?_
        refine lv_iload_n hx hb d_Parts_addPartsLike_82 rfl (lv_at hl 2 rfl) ?_
        refine lv_iload hx hb d_Parts_addPartsLike_83 (lv_at hl 5 rfl) ?_
        refine kV hC hB _ lkC_Parts rfl (c_Parts_gateAt (m_ST_write ((m_Parts_addPart σ (m_Parts_letterOf σ (m_Parts_partAt σ v1 v4)) (m_Parts_gateCount σ (m_Parts_partAt σ v1 v4))).2) 6 (m_Parts_partAt σ v1 v4) ((m_Parts_addPart σ (m_Parts_letterOf σ (m_Parts_partAt σ v1 v4)) (m_Parts_gateCount σ (m_Parts_partAt σ v1 v4))).1)) π v1 v4) allw_ok mf_Parts_gateAt kw_680 ks_17 kw_678 ⟨rfl, rfl, Nat.le_of_ble_eq_true rfl, Nat.le_of_ble_eq_true rfl⟩ rfl rfl hl.1 (Nat.le_of_ble_eq_true rfl) d_Parts_addPartsLike_85 (by constructor <;> (try dsimp only) <;> omega) (roK fun H locs hB => ?_)
        refine lv_bipush (v := 8) hx hb d_Parts_addPartsLike_88 (by decide) ?_
        refine lv_irem hx hb d_Parts_addPartsLike_90 (by decide) ?_
        refine kV hC hB _ lkC_Parts rfl (c_Parts_layGate (m_ST_write ((m_Parts_addPart σ (m_Parts_letterOf σ (m_Parts_partAt σ v1 v4)) (m_Parts_gateCount σ (m_Parts_partAt σ v1 v4))).2) 6 (m_Parts_partAt σ v1 v4) ((m_Parts_addPart σ (m_Parts_letterOf σ (m_Parts_partAt σ v1 v4)) (m_Parts_gateCount σ (m_Parts_partAt σ v1 v4))).1)) π hπ v2 (m_ST_read (m_ST_write ((m_Parts_addPart σ (m_Parts_letterOf σ (m_Parts_partAt σ v1 v4)) (m_Parts_gateCount σ (m_Parts_partAt σ v1 v4))).2) 6 (m_Parts_partAt σ v1 v4) ((m_Parts_addPart σ (m_Parts_letterOf σ (m_Parts_partAt σ v1 v4)) (m_Parts_gateCount σ (m_Parts_partAt σ v1 v4))).1)) 6 (m_Parts_partAt σ v1 v4)) ((m_Parts_gateAt (m_ST_write ((m_Parts_addPart σ (m_Parts_letterOf σ (m_Parts_partAt σ v1 v4)) (m_Parts_gateCount σ (m_Parts_partAt σ v1 v4))).2) 6 (m_Parts_partAt σ v1 v4) ((m_Parts_addPart σ (m_Parts_letterOf σ (m_Parts_partAt σ v1 v4)) (m_Parts_gateCount σ (m_Parts_partAt σ v1 v4))).1)) v1 v4) - (m_Parts_gateAt (m_ST_write ((m_Parts_addPart σ (m_Parts_letterOf σ (m_Parts_partAt σ v1 v4)) (m_Parts_gateCount σ (m_Parts_partAt σ v1 v4))).2) 6 (m_Parts_partAt σ v1 v4) ((m_Parts_addPart σ (m_Parts_letterOf σ (m_Parts_partAt σ v1 v4)) (m_Parts_gateCount σ (m_Parts_partAt σ v1 v4))).1)) v1 v4) / 8 * 8)) allw_ok mf_Parts_layGate kw_653 kw_654 kw_704 ⟨rfl, rfl, Nat.le_of_ble_eq_true rfl, Nat.le_of_ble_eq_true rfl⟩ rfl rfl hl.1 (Nat.le_of_ble_eq_true rfl) d_Parts_addPartsLike_91 (by constructor <;> (try dsimp only) <;> omega) (fun H locs w hw hB => ?_)
        obtain ⟨π, hπ, rfl⟩ := hw
        refine lv_iinc (v := (v4 + 1)) (lv' := [(4, .int (v4 + 1)), (5, .int (m_Parts_partAt σ v1 v4)), (0, .ref (G 0 5)), (1, .int v1), (2, .int v2), (3, .int v3)]) hx hb d_Parts_addPartsLike_94 hl (k := 5) rfl rfl (by decide) rfl (fun ls hl => ?_)
        refine lv_goto (tgt := 17) hx hb d_Parts_addPartsLike_97 (by decide) ?_
        exact ih (m_Parts_layGate (m_ST_write ((m_Parts_addPart σ (m_Parts_letterOf σ (m_Parts_partAt σ v1 v4)) (m_Parts_gateCount σ (m_Parts_partAt σ v1 v4))).2) 6 (m_Parts_partAt σ v1 v4) ((m_Parts_addPart σ (m_Parts_letterOf σ (m_Parts_partAt σ v1 v4)) (m_Parts_gateCount σ (m_Parts_partAt σ v1 v4))).1)) v2 (m_ST_read (m_ST_write ((m_Parts_addPart σ (m_Parts_letterOf σ (m_Parts_partAt σ v1 v4)) (m_Parts_gateCount σ (m_Parts_partAt σ v1 v4))).2) 6 (m_Parts_partAt σ v1 v4) ((m_Parts_addPart σ (m_Parts_letterOf σ (m_Parts_partAt σ v1 v4)) (m_Parts_gateCount σ (m_Parts_partAt σ v1 v4))).1)) 6 (m_Parts_partAt σ v1 v4)) ((m_Parts_gateAt (m_ST_write ((m_Parts_addPart σ (m_Parts_letterOf σ (m_Parts_partAt σ v1 v4)) (m_Parts_gateCount σ (m_Parts_partAt σ v1 v4))).2) 6 (m_Parts_partAt σ v1 v4) ((m_Parts_addPart σ (m_Parts_letterOf σ (m_Parts_partAt σ v1 v4)) (m_Parts_gateCount σ (m_Parts_partAt σ v1 v4))).1)) v1 v4) - (m_Parts_gateAt (m_ST_write ((m_Parts_addPart σ (m_Parts_letterOf σ (m_Parts_partAt σ v1 v4)) (m_Parts_gateCount σ (m_Parts_partAt σ v1 v4))).2) 6 (m_Parts_partAt σ v1 v4) ((m_Parts_addPart σ (m_Parts_letterOf σ (m_Parts_partAt σ v1 v4)) (m_Parts_gateCount σ (m_Parts_partAt σ v1 v4))).1)) v1 v4) / 8 * 8)) v1 v2 v3 (v4 + 1) _ _ (up_step hI (by assumption)) (by omega) (by omega) hR π hπ _ _ hB ls (lv_sub hl [2, 3, 4, 5, 0] rfl)

set_option maxHeartbeats 400000 in
set_option maxRecDepth 100000 in
theorem c_Parts_addPartsLike  (σ : SC) (π : PJ) (hπ : RJ π σ) (x0 : Int32) (x1 : Int32) : CM l y_Parts_addPartsLike b_Parts_addPartsLike 6 (none) { frames := 5, cells := (6 * ((m_Parts_gatesOn (m_Arrays_fillI σ 6 (-1)) x0).toNatClampNeg + 1)), slots := (4 * (6 * ((m_Parts_gatesOn (m_Arrays_fillI σ 6 (-1)) x0).toNatClampNeg + 1))), locals := 111 } D (tyL cI cL cQ) N0 N0 [.ref (G 0 5), .int x0, .int x1] (wsC G cI cL cQ σ π rest) (none) (pwC G cI cL cQ (m_Parts_addPartsLike σ x0 x1) rest) (6 * ((m_Parts_gatesOn (m_Arrays_fillI σ 6 (-1)) x0).toNatClampNeg + 1)) (4 * (6 * ((m_Parts_gatesOn (m_Arrays_fillI σ 6 (-1)) x0).toNatClampNeg + 1))) := by
  generalize hR : m_Parts_addPartsLike σ x0 x1 = RES
  refine met_of (own := R_Parts) (by decide) rfl nwl_ok ?_
  intro p e s m below meth c hC hin hB
  have hx := hC.1
  have hb := hC.2.1
  have hl := lv_entry ([.ref (G 0 5), .int x0, .int x1]) (n := 6) (Nat.le_of_ble_eq_true rfl)
  rw [lg_entry_eq]
  generalize (lg_sl ([.ref (G 0 5), .int x0, .int x1]) ++ List.replicate (6 - (lg_sl ([.ref (G 0 5), .int x0, .int x1])).length) Slot.unset).toArray = ls at hl ⊢
  have hl : lv_has ls 6 [(0, .ref (G 0 5)), (1, .int x0), (2, .int x1)] := hl
  rw [m_Parts_addPartsLike] at hR
  refine lv_aload_n hx hb d_Parts_addPartsLike_0 rfl (lv_at hl 0 rfl) ?_
  refine gt hC hB _ lkC_Parts rfl i_Parts 7 (by decide) rfl kw_147 rfl d_Parts_addPartsLike_1 ?_
  refine lv_iconst (v := (-1)) hx hb d_Parts_addPartsLike_4 (by decide) ?_
  refine kS hC hB (c_Arrays_fillI 6 (by decide) σ π (-1)) allw_ok mf_Arrays_fillI kw_203 kw_673 ⟨rfl, rfl, Nat.le_of_ble_eq_true rfl, Nat.le_of_ble_eq_true rfl⟩ rfl rfl hl.1 (Nat.le_of_ble_eq_true rfl) d_Parts_addPartsLike_5 (by constructor <;> (try dsimp only) <;> omega) (roK fun H locs hB => ?_)
  have hπ : RJ π (m_Arrays_fillI σ 6 (-1)) := rj_Arrays_fillI hπ 6 (-1)
  refine lv_aload_n hx hb d_Parts_addPartsLike_8 rfl (lv_at hl 0 rfl) ?_
  refine lv_iload_n hx hb d_Parts_addPartsLike_9 rfl (lv_at hl 1 rfl) ?_
  refine kV hC hB _ lkC_Parts rfl (c_Parts_gatesOn (m_Arrays_fillI σ 6 (-1)) π x0) allw_ok mf_Parts_gatesOn kw_649 kw_650 kw_656 ⟨rfl, rfl, Nat.le_of_ble_eq_true rfl, Nat.le_of_ble_eq_true rfl⟩ rfl rfl hl.1 (Nat.le_of_ble_eq_true rfl) d_Parts_addPartsLike_10 (by constructor <;> (try dsimp only) <;> omega) (roK fun H locs hB => ?_)
  refine lv_istore_n (lv' := [(3, .int (m_Parts_gatesOn (m_Arrays_fillI σ 6 (-1)) x0)), (0, .ref (G 0 5)), (1, .int x0), (2, .int x1)]) hx hb d_Parts_addPartsLike_13 rfl hl (by decide) rfl (fun ls hl => ?_)
  refine lv_iconst (v := 0) hx hb d_Parts_addPartsLike_14 (by decide) ?_
  refine lv_istore (lv' := [(4, .int 0), (3, .int (m_Parts_gatesOn (m_Arrays_fillI σ 6 (-1)) x0)), (0, .ref (G 0 5)), (1, .int x0), (2, .int x1)]) hx hb d_Parts_addPartsLike_15 hl (by decide) rfl (fun ls hl => ?_)
  exact w_Parts_addPartsLike_17  hC ((m_Parts_gatesOn (m_Arrays_fillI σ 6 (-1)) x0).toNatClampNeg + 1) (m_Arrays_fillI σ 6 (-1)) x0 x1 (m_Parts_gatesOn (m_Arrays_fillI σ 6 (-1)) x0) 0 _ _ (up_init _) (by omega) (by omega) hR π hπ _ _ hB ls (lv_sub hl [2, 3, 4, 1, 0] rfl)

set_option maxHeartbeats 400000 in
set_option maxRecDepth 100000 in
theorem w_Variants_addTelling_63 {p : Program} {e : Env} {s : State} {m : MethodId} {args : Array Value} {below : List Frame} {meth : Method} {c : Code} {RES : Int32 × SC} {MC : Nat}  (hC : cx D classes (tyL cI cL cQ) NWL ALLW N0 p s m args meth c b_Variants_addTelling 6 (some .int) R_Variants) :
    ∀ (n : Nat) (σ : SC) (v1 : Int32) (v2 : Int32) (v3 : Int32) (v4 : Int32) (v5 : Int32) (cells slots : Nat), dnI n v5 → cells + 1 * n ≤ MC → slots + 4 * n ≤ (4 * MC) → lp_Variants_addTelling_63 n σ  v1 v2 v3 v4 v5 = RES → ∀ (π : PJ) (hπ : RJ π σ) (H : Heap) (locs : List Loc), bd D classes N0 N0 (wsC G cI cL cQ σ π rest) s H locs → ∀ (ls : Array Slot), lv_has ls 6 [(0, .ref (G 0 6)), (1, .int v1), (2, .int v2), (3, .int v3), (4, .int v4), (5, .int v5)] → W p l e { frames := 4, cells := MC, slots := 4 * MC, locals := 87 } s m args below meth c H locs cells slots (MQ below (qx D classes N0 N0 (some (.int RES.1)) (pwC G cI cL cQ RES.2 rest)) args s MC (4 * MC) (ga N0)) (F0 m 63 ls []) := by
  obtain ⟨RV, RS⟩ := RES
  dsimp only
  have hx := hC.1
  have hb := hC.2.1
  intro n
  induction n with
  | zero =>
    intro σ v1 v2 v3 v4 v5 cells slots hI
    exact absurd hI dn_zero
  | succ n ih =>
    intro σ v1 v2 v3 v4 v5 cells slots hI hc1 hc2 hR π hπ H locs hB ls hl
    rw [lp_Variants_addTelling_63] at hR
    refine lv_iload hx hb d_Variants_addTelling_63 (lv_at hl 5 rfl) ?_
    refine lv_if_lt (tgt := 109) hx hb d_Variants_addTelling_65 (by decide) (fun c_1 => ?_) (fun c_1 => ?_)
    · rw [if_pos c_1] at hR
      refine lv_iload_n hx hb d_Variants_addTelling_109 rfl (lv_at hl 3 rfl) ?_
      obtain ⟨rfl, rfl⟩ := Prod.mk.inj hR
      refine W.widen (k := MC) (n := (4 * MC)) (by (try dsimp only); omega) (by (try dsimp only); omega) ?_
      exact ri hC hB ⟨π, hπ, rfl⟩ d_Variants_addTelling_110
    · rw [if_neg c_1] at hR
      refine lv_aload_n hx hb d_Variants_addTelling_68 rfl (lv_at hl 0 rfl) ?_
      refine gt hC hB _ lkC_Variants rfl i_Variants 6 (by decide) rfl kw_180 rfl d_Variants_addTelling_69 ?_
      refine lv_iload_n hx hb d_Variants_addTelling_72 rfl (lv_at hl 3 rfl) ?_
      refine lv_bipush (v := 23) hx hb d_Variants_addTelling_73 (by decide) ?_
      refine lv_imul hx hb d_Variants_addTelling_75 ?_
      refine lv_iload hx hb d_Variants_addTelling_76 (lv_at hl 5 rfl) ?_
      refine lv_iadd hx hb d_Variants_addTelling_78 ?_
      refine lv_aload_n hx hb d_Variants_addTelling_79 rfl (lv_at hl 0 rfl) ?_
      refine gt hC hB _ lkC_Variants rfl i_Variants 0 (by decide) rfl kw_174 rfl d_Variants_addTelling_80 ?_
      refine lv_iload hx hb d_Variants_addTelling_83 (lv_at hl 4 rfl) ?_
      refine kV hC hB _ lkC_Book rfl (c_Book_placementAt σ π v4) allw_ok mf_Book_placementAt kw_237 kw_238 kw_778 ⟨rfl, rfl, Nat.le_of_ble_eq_true rfl, Nat.le_of_ble_eq_true rfl⟩ rfl rfl hl.1 (Nat.le_of_ble_eq_true rfl) d_Variants_addTelling_85 (by constructor <;> (try dsimp only) <;> omega) (roK fun H locs hB => ?_)
      refine lv_i2l hx hb d_Variants_addTelling_88 rfl ?_
      refine kV hC hB _ (lkC_row (by decide)) rfl (c_Row_set 17 (by decide) σ π hπ ((v3 * 23) + v5) ((m_Book_placementAt σ v4).toInt64)) allw_ok mf_Row_set kw_292 kw_293 kw_745 ⟨rfl, rfl, Nat.le_of_ble_eq_true rfl, Nat.le_of_ble_eq_true rfl⟩ rfl rfl hl.1 (Nat.le_of_ble_eq_true rfl) d_Variants_addTelling_89 (by constructor <;> (try dsimp only) <;> omega) (fun H locs w hw hB => ?_)
      obtain ⟨π, hπ, rfl⟩ := hw
      refine lv_aload_n hx hb d_Variants_addTelling_92 rfl (lv_at hl 0 rfl) ?_
      refine gt hC hB _ lkC_Variants rfl i_Variants 0 (by decide) rfl kw_174 rfl d_Variants_addTelling_93 ?_
      refine lv_iload hx hb d_Variants_addTelling_96 (lv_at hl 4 rfl) ?_
      refine kV hC hB _ lkC_Book rfl (c_Book_pageAbove (m_Row_set σ 17 ((v3 * 23) + v5) ((m_Book_placementAt σ v4).toInt64)) π v4) allw_ok mf_Book_pageAbove kw_245 kw_246 kw_779 ⟨rfl, rfl, Nat.le_of_ble_eq_true rfl, Nat.le_of_ble_eq_true rfl⟩ rfl rfl hl.1 (Nat.le_of_ble_eq_true rfl) d_Variants_addTelling_98 (by constructor <;> (try dsimp only) <;> omega) (roK fun H locs hB => ?_)
      refine lv_istore (lv' := [(4, .int (m_Book_pageAbove (m_Row_set σ 17 ((v3 * 23) + v5) ((m_Book_placementAt σ v4).toInt64)) v4)), (0, .ref (G 0 6)), (1, .int v1), (2, .int v2), (3, .int v3), (5, .int v5)]) hx hb d_Variants_addTelling_101 hl (by decide) rfl (fun ls hl => ?_)
      refine lv_iinc (v := (v5 + (-1))) (lv' := [(5, .int (v5 + (-1))), (4, .int (m_Book_pageAbove (m_Row_set σ 17 ((v3 * 23) + v5) ((m_Book_placementAt σ v4).toInt64)) v4)), (0, .ref (G 0 6)), (1, .int v1), (2, .int v2), (3, .int v3)]) hx hb d_Variants_addTelling_103 hl (k := 5) rfl rfl (by decide) rfl (fun ls hl => ?_)
      refine lv_goto (tgt := 63) hx hb d_Variants_addTelling_106 (by decide) ?_
      exact ih (m_Row_set σ 17 ((v3 * 23) + v5) ((m_Book_placementAt σ v4).toInt64)) v1 v2 v3 (m_Book_pageAbove (m_Row_set σ 17 ((v3 * 23) + v5) ((m_Book_placementAt σ v4).toInt64)) v4) (v5 + (-1)) _ _ (dn_step hI (by assumption)) (by omega) (by omega) hR π hπ _ _ hB ls (lv_sub hl [2, 3, 4, 5, 1, 0] rfl)

set_option maxHeartbeats 400000 in
set_option maxRecDepth 100000 in
theorem c_Variants_addTelling  (σ : SC) (π : PJ) (hπ : RJ π σ) (x0 : Int32) (x1 : Int32) : CM l y_Variants_addTelling b_Variants_addTelling 6 (some .int) { frames := 4, cells := (3 + ((m_Book_depthAt (m_Row_set (m_Row_set (m_Row_set σ 12 1 ((m_Row_at σ 12 1 + 1).toInt64)) 14 (m_Row_at σ 12 1) x0.toInt64) 16 (m_Row_at σ 12 1) (m_Book_depthAt (m_Row_set (m_Row_set σ 12 1 ((m_Row_at σ 12 1 + 1).toInt64)) 14 (m_Row_at σ 12 1) x0.toInt64) x1).toInt64) x1 - 1).toNatClampNeg + 2)), slots := (4 * (3 + ((m_Book_depthAt (m_Row_set (m_Row_set (m_Row_set σ 12 1 ((m_Row_at σ 12 1 + 1).toInt64)) 14 (m_Row_at σ 12 1) x0.toInt64) 16 (m_Row_at σ 12 1) (m_Book_depthAt (m_Row_set (m_Row_set σ 12 1 ((m_Row_at σ 12 1 + 1).toInt64)) 14 (m_Row_at σ 12 1) x0.toInt64) x1).toInt64) x1 - 1).toNatClampNeg + 2))), locals := 87 } D (tyL cI cL cQ) N0 N0 [.ref (G 0 6), .int x0, .int x1] (wsC G cI cL cQ σ π rest) (some (.int ((m_Variants_addTelling σ x0 x1).1))) (pwC G cI cL cQ ((m_Variants_addTelling σ x0 x1).2) rest) (3 + ((m_Book_depthAt (m_Row_set (m_Row_set (m_Row_set σ 12 1 ((m_Row_at σ 12 1 + 1).toInt64)) 14 (m_Row_at σ 12 1) x0.toInt64) 16 (m_Row_at σ 12 1) (m_Book_depthAt (m_Row_set (m_Row_set σ 12 1 ((m_Row_at σ 12 1 + 1).toInt64)) 14 (m_Row_at σ 12 1) x0.toInt64) x1).toInt64) x1 - 1).toNatClampNeg + 2)) (4 * (3 + ((m_Book_depthAt (m_Row_set (m_Row_set (m_Row_set σ 12 1 ((m_Row_at σ 12 1 + 1).toInt64)) 14 (m_Row_at σ 12 1) x0.toInt64) 16 (m_Row_at σ 12 1) (m_Book_depthAt (m_Row_set (m_Row_set σ 12 1 ((m_Row_at σ 12 1 + 1).toInt64)) 14 (m_Row_at σ 12 1) x0.toInt64) x1).toInt64) x1 - 1).toNatClampNeg + 2))) := by
  generalize hR : m_Variants_addTelling σ x0 x1 = RES
  obtain ⟨RV, RS⟩ := RES
  dsimp only
  refine met_of (own := R_Variants) (by decide) rfl nwl_ok ?_
  intro p e s m below meth c hC hin hB
  have hx := hC.1
  have hb := hC.2.1
  have hl := lv_entry ([.ref (G 0 6), .int x0, .int x1]) (n := 6) (Nat.le_of_ble_eq_true rfl)
  rw [lg_entry_eq]
  generalize (lg_sl ([.ref (G 0 6), .int x0, .int x1]) ++ List.replicate (6 - (lg_sl ([.ref (G 0 6), .int x0, .int x1])).length) Slot.unset).toArray = ls at hl ⊢
  have hl : lv_has ls 6 [(0, .ref (G 0 6)), (1, .int x0), (2, .int x1)] := hl
  rw [m_Variants_addTelling] at hR
  refine lv_aload_n hx hb d_Variants_addTelling_0 rfl (lv_at hl 0 rfl) ?_
  refine gt hC hB _ lkC_Variants rfl i_Variants 1 (by decide) rfl kw_175 rfl d_Variants_addTelling_1 ?_
  refine lv_iconst (v := 1) hx hb d_Variants_addTelling_4 (by decide) ?_
  refine kV hC hB _ (lkC_row (by decide)) rfl (c_Row_at 12 (by decide) σ π 1) allw_ok mf_Row_at kw_233 kw_234 kw_738 ⟨rfl, rfl, Nat.le_of_ble_eq_true rfl, Nat.le_of_ble_eq_true rfl⟩ rfl rfl hl.1 (Nat.le_of_ble_eq_true rfl) d_Variants_addTelling_5 (by constructor <;> (try dsimp only) <;> omega) (roK fun H locs hB => ?_)
  refine lv_istore_n (lv' := [(3, .int (m_Row_at σ 12 1)), (0, .ref (G 0 6)), (1, .int x0), (2, .int x1)]) hx hb d_Variants_addTelling_8 rfl hl (by decide) rfl (fun ls hl => ?_)
  refine lv_aload_n hx hb d_Variants_addTelling_9 rfl (lv_at hl 1 rfl) ?_
  refine gt hC hB _ lkC_Variants rfl i_Variants 1 (by decide) rfl kw_175 rfl d_Variants_addTelling_10 ?_
  refine lv_iconst (v := 1) hx hb d_Variants_addTelling_13 (by decide) ?_
  refine lv_iload_n hx hb d_Variants_addTelling_14 rfl (lv_at hl 0 rfl) ?_
  refine lv_iconst (v := 1) hx hb d_Variants_addTelling_15 (by decide) ?_
  refine lv_iadd hx hb d_Variants_addTelling_16 ?_
  refine lv_i2l hx hb d_Variants_addTelling_17 rfl ?_
  refine kV hC hB _ (lkC_row (by decide)) rfl (c_Row_set 12 (by decide) σ π hπ 1 (((m_Row_at σ 12 1) + 1).toInt64)) allw_ok mf_Row_set kw_292 kw_293 kw_745 ⟨rfl, rfl, Nat.le_of_ble_eq_true rfl, Nat.le_of_ble_eq_true rfl⟩ rfl rfl hl.1 (Nat.le_of_ble_eq_true rfl) d_Variants_addTelling_18 (by constructor <;> (try dsimp only) <;> omega) (fun H locs w hw hB => ?_)
  obtain ⟨π, hπ, rfl⟩ := hw
  refine lv_aload_n hx hb d_Variants_addTelling_21 rfl (lv_at hl 1 rfl) ?_
  refine gt hC hB _ lkC_Variants rfl i_Variants 3 (by decide) rfl kw_177 rfl d_Variants_addTelling_22 ?_
  refine lv_iload_n hx hb d_Variants_addTelling_25 rfl (lv_at hl 0 rfl) ?_
  refine lv_iload_n hx hb d_Variants_addTelling_26 rfl (lv_at hl 2 rfl) ?_
  refine lv_i2l hx hb d_Variants_addTelling_27 rfl ?_
  refine kV hC hB _ (lkC_row (by decide)) rfl (c_Row_set 14 (by decide) (m_Row_set σ 12 1 (((m_Row_at σ 12 1) + 1).toInt64)) π hπ (m_Row_at σ 12 1) x0.toInt64) allw_ok mf_Row_set kw_292 kw_293 kw_745 ⟨rfl, rfl, Nat.le_of_ble_eq_true rfl, Nat.le_of_ble_eq_true rfl⟩ rfl rfl hl.1 (Nat.le_of_ble_eq_true rfl) d_Variants_addTelling_28 (by constructor <;> (try dsimp only) <;> omega) (fun H locs w hw hB => ?_)
  obtain ⟨π, hπ, rfl⟩ := hw
  refine lv_aload_n hx hb d_Variants_addTelling_31 rfl (lv_at hl 1 rfl) ?_
  refine gt hC hB _ lkC_Variants rfl i_Variants 5 (by decide) rfl kw_179 rfl d_Variants_addTelling_32 ?_
  refine lv_iload_n hx hb d_Variants_addTelling_35 rfl (lv_at hl 0 rfl) ?_
  refine lv_aload_n hx hb d_Variants_addTelling_36 rfl (lv_at hl 1 rfl) ?_
  refine gt hC hB _ lkC_Variants rfl i_Variants 0 (by decide) rfl kw_174 rfl d_Variants_addTelling_37 ?_
  refine lv_iload_n hx hb d_Variants_addTelling_40 rfl (lv_at hl 3 rfl) ?_
  refine kV hC hB _ lkC_Book rfl (c_Book_depthAt (m_Row_set (m_Row_set σ 12 1 (((m_Row_at σ 12 1) + 1).toInt64)) 14 (m_Row_at σ 12 1) x0.toInt64) π x1) allw_ok mf_Book_depthAt kw_253 kw_254 kw_777 ⟨rfl, rfl, Nat.le_of_ble_eq_true rfl, Nat.le_of_ble_eq_true rfl⟩ rfl rfl hl.1 (Nat.le_of_ble_eq_true rfl) d_Variants_addTelling_41 (by constructor <;> (try dsimp only) <;> omega) (roK fun H locs hB => ?_)
  refine lv_i2l hx hb d_Variants_addTelling_44 rfl ?_
  refine kV hC hB _ (lkC_row (by decide)) rfl (c_Row_set 16 (by decide) (m_Row_set (m_Row_set σ 12 1 (((m_Row_at σ 12 1) + 1).toInt64)) 14 (m_Row_at σ 12 1) x0.toInt64) π hπ (m_Row_at σ 12 1) ((m_Book_depthAt (m_Row_set (m_Row_set σ 12 1 (((m_Row_at σ 12 1) + 1).toInt64)) 14 (m_Row_at σ 12 1) x0.toInt64) x1).toInt64)) allw_ok mf_Row_set kw_292 kw_293 kw_745 ⟨rfl, rfl, Nat.le_of_ble_eq_true rfl, Nat.le_of_ble_eq_true rfl⟩ rfl rfl hl.1 (Nat.le_of_ble_eq_true rfl) d_Variants_addTelling_45 (by constructor <;> (try dsimp only) <;> omega) (fun H locs w hw hB => ?_)
  obtain ⟨π, hπ, rfl⟩ := hw
  refine lv_iload_n hx hb d_Variants_addTelling_48 rfl (lv_at hl 3 rfl) ?_
  refine lv_istore (lv' := [(4, .int x1), (3, .int (m_Row_at σ 12 1)), (0, .ref (G 0 6)), (1, .int x0), (2, .int x1)]) hx hb d_Variants_addTelling_49 hl (by decide) rfl (fun ls hl => ?_)
  refine lv_aload_n hx hb d_Variants_addTelling_51 rfl (lv_at hl 2 rfl) ?_
  refine gt hC hB _ lkC_Variants rfl i_Variants 0 (by decide) rfl kw_174 rfl d_Variants_addTelling_52 ?_
  refine lv_iload_n hx hb d_Variants_addTelling_55 rfl (lv_at hl 4 rfl) ?_
  refine kV hC hB _ lkC_Book rfl (c_Book_depthAt (m_Row_set (m_Row_set (m_Row_set σ 12 1 (((m_Row_at σ 12 1) + 1).toInt64)) 14 (m_Row_at σ 12 1) x0.toInt64) 16 (m_Row_at σ 12 1) ((m_Book_depthAt (m_Row_set (m_Row_set σ 12 1 (((m_Row_at σ 12 1) + 1).toInt64)) 14 (m_Row_at σ 12 1) x0.toInt64) x1).toInt64)) π x1) allw_ok mf_Book_depthAt kw_253 kw_254 kw_777 ⟨rfl, rfl, Nat.le_of_ble_eq_true rfl, Nat.le_of_ble_eq_true rfl⟩ rfl rfl hl.1 (Nat.le_of_ble_eq_true rfl) d_Variants_addTelling_56 (by constructor <;> (try dsimp only) <;> omega) (roK fun H locs hB => ?_)
  refine lv_iconst (v := 1) hx hb d_Variants_addTelling_59 (by decide) ?_
  refine lv_isub hx hb d_Variants_addTelling_60 ?_
  refine lv_istore (lv' := [(5, .int ((m_Book_depthAt (m_Row_set (m_Row_set (m_Row_set σ 12 1 (((m_Row_at σ 12 1) + 1).toInt64)) 14 (m_Row_at σ 12 1) x0.toInt64) 16 (m_Row_at σ 12 1) ((m_Book_depthAt (m_Row_set (m_Row_set σ 12 1 (((m_Row_at σ 12 1) + 1).toInt64)) 14 (m_Row_at σ 12 1) x0.toInt64) x1).toInt64)) x1) - 1)), (4, .int x1), (3, .int (m_Row_at σ 12 1)), (0, .ref (G 0 6)), (1, .int x0), (2, .int x1)]) hx hb d_Variants_addTelling_61 hl (by decide) rfl (fun ls hl => ?_)
  exact w_Variants_addTelling_63  hC (((m_Book_depthAt (m_Row_set (m_Row_set (m_Row_set σ 12 1 (((m_Row_at σ 12 1) + 1).toInt64)) 14 (m_Row_at σ 12 1) x0.toInt64) 16 (m_Row_at σ 12 1) ((m_Book_depthAt (m_Row_set (m_Row_set σ 12 1 (((m_Row_at σ 12 1) + 1).toInt64)) 14 (m_Row_at σ 12 1) x0.toInt64) x1).toInt64)) x1) - 1).toNatClampNeg + 2) (m_Row_set (m_Row_set (m_Row_set σ 12 1 (((m_Row_at σ 12 1) + 1).toInt64)) 14 (m_Row_at σ 12 1) x0.toInt64) 16 (m_Row_at σ 12 1) ((m_Book_depthAt (m_Row_set (m_Row_set σ 12 1 (((m_Row_at σ 12 1) + 1).toInt64)) 14 (m_Row_at σ 12 1) x0.toInt64) x1).toInt64)) x0 x1 (m_Row_at σ 12 1) x1 ((m_Book_depthAt (m_Row_set (m_Row_set (m_Row_set σ 12 1 (((m_Row_at σ 12 1) + 1).toInt64)) 14 (m_Row_at σ 12 1) x0.toInt64) 16 (m_Row_at σ 12 1) ((m_Book_depthAt (m_Row_set (m_Row_set σ 12 1 (((m_Row_at σ 12 1) + 1).toInt64)) 14 (m_Row_at σ 12 1) x0.toInt64) x1).toInt64)) x1) - 1) _ _ (dn_init _) (by omega) (by omega) hR π hπ _ _ hB ls (lv_sub hl [3, 4, 5, 2, 1, 0] rfl)
end SC
