/-! the constructors of the parts, of the class and of the reference; walked by program -/
section CP
variable {l : Launch} {D : va_G} {N0 N1 : Nat} {cI cL cQ : ClassId}
theorem bd_app {D : va_G} {cl : List vw_C} {N0 N1 : Nat} {w0 L M : va_W} {s : State} {H : Heap} {locs : List Loc} (h : bd D cl N0 N1 ((w0 ++ L) ++ M) s H locs) : bd D cl N0 N1 (w0 ++ (L ++ M)) s H locs := by rw [← List.append_assoc]; exact h
set_option maxHeartbeats 1000000 in
set_option maxRecDepth 100000 in
theorem c_Sheets_init {w0 : va_W} {a jo : Nat} : CM l y_Sheets_init b_Sheets_init 2 (none) { frames := 2, cells := 12, slots := 2162, locals := 48 } D (tyL cI cL cQ) N0 N0 [.ref a, .ref jo] (w0 ++ [(a, .inr (CI_Sheets, [.null, .null, .null, .null, .null, .null]))]) (none) (fun w => ∃ r0 b0 r1 b1 r2 b2 r3 b3 r4 b4 r5 b5, w = w0 ++ [(a, .inr (CI_Sheets, [.ref r0, .ref r1, .ref r2, .ref r3, .ref r4, .ref r5])), rwo r0 jo b0, la cL b0 2 (vp_updL (flv 2 0 (fun _ => 0)) 0 1), rwo r1 jo b1, la cL b1 24 (flv 24 0 (fun _ => 0)), rwo r2 jo b2, la cL b2 60 (flv 60 (-1) (fun _ => 0)), rwo r3 jo b3, la cL b3 60 (flv 60 (-1) (fun _ => 0)), rwo r4 jo b4, la cL b4 84 (flv 84 (-1) (fun _ => 0)), rwo r5 jo b5, la cL b5 1920 (flv 1920 (-1) (fun _ => 0))]) 12 2162 := by
  refine met_of (own := R_Sheets) (by decide) rfl nwl_ok ?_
  intro p e s m below meth c hC hin hB
  have hx := hC.1
  have hb := hC.2.1
  have hl := lv_entry ([.ref a, .ref jo]) (n := 2) (Nat.le_of_ble_eq_true rfl)
  rw [lg_entry_eq]
  generalize (lg_sl ([.ref a, .ref jo]) ++ List.replicate (2 - (lg_sl ([.ref a, .ref jo])).length) Slot.unset).toArray = ls at hl ⊢
  have hl : lv_has ls 2 [(0, .ref a), (1, .ref jo)] := hl
  obtain ⟨locs, hlocs⟩ : ∃ z : List Loc, z = [] := ⟨_, rfl⟩
  rw [← hlocs] at hB ⊢
  refine lv_aload_n hx hb d_Sheets_init_0 rfl (lv_at hl 0 rfl) ?_
  refine oi hC kw_54 kw_23 kw_24 hl.1 d_Sheets_init_1 (Nat.le_of_ble_eq_true rfl) (Nat.le_of_ble_eq_true rfl) ?_
  refine lv_aload_n hx hb d_Sheets_init_4 rfl (lv_at hl 0 rfl) ?_
  refine nwo (ci := CI_Row) (fs := [.null, .null]) rfl hC hB rfl i_Row t_Row t_Row_ok kw_55 kw_56 kw_4 (fun j hj => by rcases (show j = 0 ∨ j = 1 by omega) with rfl | rfl <;> rfl) (Nat.le_of_ble_eq_true rfl) (Nat.le_of_ble_eq_true rfl) d_Sheets_init_5 (fun r0 H hB => ?_)
  have hB2 := hB
  have hB : bd D classes N0 N0 (w0 ++ [(a, .inr (CI_Sheets, [.null, .null, .null, .null, .null, .null])), (r0, .inr (CI_Row, [.null, .null]))]) s H locs := bd_app hB
  refine lv_dup hx hb d_Sheets_init_8 rfl ?_
  refine lv_aload_n hx hb d_Sheets_init_9 rfl (lv_at hl 1 rfl) ?_
  refine lv_iconst (v := 2) hx hb d_Sheets_init_10 (by decide) ?_
  refine lv_lconst (v := 0) hx hb d_Sheets_init_11 (by decide) ?_
  refine kI hC hB2 (c_Row_init (w0 := w0 ++ [(a, .inr (CI_Sheets, [.null, .null, .null, .null, .null, .null]))]) (n := 2) (by decide) (2 : Int32) rfl 0) allw_ok mf_Row_init kw_58 rfl kw_57 ⟨rfl, rfl, Nat.le_of_ble_eq_true rfl, Nat.le_of_ble_eq_true rfl⟩ rfl rfl hl.1 (Nat.le_of_ble_eq_true rfl) d_Sheets_init_12 ⟨Nat.le_of_ble_eq_true rfl, Nat.le_of_ble_eq_true rfl⟩ (fun H locs w hw hB => ?_)
  obtain ⟨b0, rfl⟩ := hw
  have hB : bd D classes N0 N0 (w0 ++ [(a, .inr (CI_Sheets, [.null, .null, .null, .null, .null, .null])), rwo r0 jo b0, la cL b0 2 (flv 2 0 (fun _ => 0))]) s H locs := bd_app hB
  refine ptF (ty := .object "SheetTrees$Row") rfl hC (hin rfl) hB (w0.length + 0) (ap_get 0) rfl i_Sheets t_Sheets t_Sheets_ok n_Sheets 0 (by decide) rfl rfl rfl kw_80 (by decide +kernel) rfl rfl (Nat.le_of_ble_eq_true rfl) d_Sheets_init_15 (ap_set _ _) (fun H locs hB => ?_)
  have hB : bd D classes N0 N0 (w0 ++ [(a, .inr (CI_Sheets, [.ref r0, .null, .null, .null, .null, .null])), rwo r0 jo b0, la cL b0 2 (flv 2 0 (fun _ => 0))]) s H locs := hB
  refine lv_aload_n hx hb d_Sheets_init_18 rfl (lv_at hl 0 rfl) ?_
  refine nwo (ci := CI_Row) (fs := [.null, .null]) rfl hC hB rfl i_Row t_Row t_Row_ok kw_55 kw_56 kw_4 (fun j hj => by rcases (show j = 0 ∨ j = 1 by omega) with rfl | rfl <;> rfl) (Nat.le_of_ble_eq_true rfl) (Nat.le_of_ble_eq_true rfl) d_Sheets_init_19 (fun r1 H hB => ?_)
  have hB2 := hB
  have hB : bd D classes N0 N0 (w0 ++ [(a, .inr (CI_Sheets, [.ref r0, .null, .null, .null, .null, .null])), rwo r0 jo b0, la cL b0 2 (flv 2 0 (fun _ => 0)), (r1, .inr (CI_Row, [.null, .null]))]) s H locs := bd_app hB
  refine lv_dup hx hb d_Sheets_init_22 rfl ?_
  refine lv_aload_n hx hb d_Sheets_init_23 rfl (lv_at hl 1 rfl) ?_
  refine lv_bipush (v := 24) hx hb d_Sheets_init_24 (by decide) ?_
  refine lv_lconst (v := 0) hx hb d_Sheets_init_26 (by decide) ?_
  refine kI hC hB2 (c_Row_init (w0 := w0 ++ [(a, .inr (CI_Sheets, [.ref r0, .null, .null, .null, .null, .null])), rwo r0 jo b0, la cL b0 2 (flv 2 0 (fun _ => 0))]) (n := 24) (by decide) (24 : Int32) rfl 0) allw_ok mf_Row_init kw_58 rfl kw_57 ⟨rfl, rfl, Nat.le_of_ble_eq_true rfl, Nat.le_of_ble_eq_true rfl⟩ rfl rfl hl.1 (Nat.le_of_ble_eq_true rfl) d_Sheets_init_27 ⟨Nat.le_of_ble_eq_true rfl, Nat.le_of_ble_eq_true rfl⟩ (fun H locs w hw hB => ?_)
  obtain ⟨b1, rfl⟩ := hw
  have hB : bd D classes N0 N0 (w0 ++ [(a, .inr (CI_Sheets, [.ref r0, .null, .null, .null, .null, .null])), rwo r0 jo b0, la cL b0 2 (flv 2 0 (fun _ => 0)), rwo r1 jo b1, la cL b1 24 (flv 24 0 (fun _ => 0))]) s H locs := bd_app hB
  refine ptF (ty := .object "SheetTrees$Row") rfl hC (hin rfl) hB (w0.length + 0) (ap_get 0) rfl i_Sheets t_Sheets t_Sheets_ok n_Sheets 1 (by decide) rfl rfl rfl kw_81 (by decide +kernel) rfl rfl (Nat.le_of_ble_eq_true rfl) d_Sheets_init_30 (ap_set _ _) (fun H locs hB => ?_)
  have hB : bd D classes N0 N0 (w0 ++ [(a, .inr (CI_Sheets, [.ref r0, .ref r1, .null, .null, .null, .null])), rwo r0 jo b0, la cL b0 2 (flv 2 0 (fun _ => 0)), rwo r1 jo b1, la cL b1 24 (flv 24 0 (fun _ => 0))]) s H locs := hB
  refine lv_aload_n hx hb d_Sheets_init_33 rfl (lv_at hl 0 rfl) ?_
  refine nwo (ci := CI_Row) (fs := [.null, .null]) rfl hC hB rfl i_Row t_Row t_Row_ok kw_55 kw_56 kw_4 (fun j hj => by rcases (show j = 0 ∨ j = 1 by omega) with rfl | rfl <;> rfl) (Nat.le_of_ble_eq_true rfl) (Nat.le_of_ble_eq_true rfl) d_Sheets_init_34 (fun r2 H hB => ?_)
  have hB2 := hB
  have hB : bd D classes N0 N0 (w0 ++ [(a, .inr (CI_Sheets, [.ref r0, .ref r1, .null, .null, .null, .null])), rwo r0 jo b0, la cL b0 2 (flv 2 0 (fun _ => 0)), rwo r1 jo b1, la cL b1 24 (flv 24 0 (fun _ => 0)), (r2, .inr (CI_Row, [.null, .null]))]) s H locs := bd_app hB
  refine lv_dup hx hb d_Sheets_init_37 rfl ?_
  refine lv_aload_n hx hb d_Sheets_init_38 rfl (lv_at hl 1 rfl) ?_
  refine lv_bipush (v := 60) hx hb d_Sheets_init_39 (by decide) ?_
  refine lv_ldc2 (v := (-1)) hx hb hC.2.2.2.2.1 (hC.2.2.2.2.2.1 _ kw_75) d_Sheets_init_41 ?_
  refine kI hC hB2 (c_Row_init (w0 := w0 ++ [(a, .inr (CI_Sheets, [.ref r0, .ref r1, .null, .null, .null, .null])), rwo r0 jo b0, la cL b0 2 (flv 2 0 (fun _ => 0)), rwo r1 jo b1, la cL b1 24 (flv 24 0 (fun _ => 0))]) (n := 60) (by decide) (60 : Int32) rfl (-1)) allw_ok mf_Row_init kw_58 rfl kw_57 ⟨rfl, rfl, Nat.le_of_ble_eq_true rfl, Nat.le_of_ble_eq_true rfl⟩ rfl rfl hl.1 (Nat.le_of_ble_eq_true rfl) d_Sheets_init_44 ⟨Nat.le_of_ble_eq_true rfl, Nat.le_of_ble_eq_true rfl⟩ (fun H locs w hw hB => ?_)
  obtain ⟨b2, rfl⟩ := hw
  have hB : bd D classes N0 N0 (w0 ++ [(a, .inr (CI_Sheets, [.ref r0, .ref r1, .null, .null, .null, .null])), rwo r0 jo b0, la cL b0 2 (flv 2 0 (fun _ => 0)), rwo r1 jo b1, la cL b1 24 (flv 24 0 (fun _ => 0)), rwo r2 jo b2, la cL b2 60 (flv 60 (-1) (fun _ => 0))]) s H locs := bd_app hB
  refine ptF (ty := .object "SheetTrees$Row") rfl hC (hin rfl) hB (w0.length + 0) (ap_get 0) rfl i_Sheets t_Sheets t_Sheets_ok n_Sheets 2 (by decide) rfl rfl rfl kw_82 (by decide +kernel) rfl rfl (Nat.le_of_ble_eq_true rfl) d_Sheets_init_47 (ap_set _ _) (fun H locs hB => ?_)
  have hB : bd D classes N0 N0 (w0 ++ [(a, .inr (CI_Sheets, [.ref r0, .ref r1, .ref r2, .null, .null, .null])), rwo r0 jo b0, la cL b0 2 (flv 2 0 (fun _ => 0)), rwo r1 jo b1, la cL b1 24 (flv 24 0 (fun _ => 0)), rwo r2 jo b2, la cL b2 60 (flv 60 (-1) (fun _ => 0))]) s H locs := hB
  refine lv_aload_n hx hb d_Sheets_init_50 rfl (lv_at hl 0 rfl) ?_
  refine nwo (ci := CI_Row) (fs := [.null, .null]) rfl hC hB rfl i_Row t_Row t_Row_ok kw_55 kw_56 kw_4 (fun j hj => by rcases (show j = 0 ∨ j = 1 by omega) with rfl | rfl <;> rfl) (Nat.le_of_ble_eq_true rfl) (Nat.le_of_ble_eq_true rfl) d_Sheets_init_51 (fun r3 H hB => ?_)
  have hB2 := hB
  have hB : bd D classes N0 N0 (w0 ++ [(a, .inr (CI_Sheets, [.ref r0, .ref r1, .ref r2, .null, .null, .null])), rwo r0 jo b0, la cL b0 2 (flv 2 0 (fun _ => 0)), rwo r1 jo b1, la cL b1 24 (flv 24 0 (fun _ => 0)), rwo r2 jo b2, la cL b2 60 (flv 60 (-1) (fun _ => 0)), (r3, .inr (CI_Row, [.null, .null]))]) s H locs := bd_app hB
  refine lv_dup hx hb d_Sheets_init_54 rfl ?_
  refine lv_aload_n hx hb d_Sheets_init_55 rfl (lv_at hl 1 rfl) ?_
  refine lv_bipush (v := 60) hx hb d_Sheets_init_56 (by decide) ?_
  refine lv_ldc2 (v := (-1)) hx hb hC.2.2.2.2.1 (hC.2.2.2.2.2.1 _ kw_75) d_Sheets_init_58 ?_
  refine kI hC hB2 (c_Row_init (w0 := w0 ++ [(a, .inr (CI_Sheets, [.ref r0, .ref r1, .ref r2, .null, .null, .null])), rwo r0 jo b0, la cL b0 2 (flv 2 0 (fun _ => 0)), rwo r1 jo b1, la cL b1 24 (flv 24 0 (fun _ => 0)), rwo r2 jo b2, la cL b2 60 (flv 60 (-1) (fun _ => 0))]) (n := 60) (by decide) (60 : Int32) rfl (-1)) allw_ok mf_Row_init kw_58 rfl kw_57 ⟨rfl, rfl, Nat.le_of_ble_eq_true rfl, Nat.le_of_ble_eq_true rfl⟩ rfl rfl hl.1 (Nat.le_of_ble_eq_true rfl) d_Sheets_init_61 ⟨Nat.le_of_ble_eq_true rfl, Nat.le_of_ble_eq_true rfl⟩ (fun H locs w hw hB => ?_)
  obtain ⟨b3, rfl⟩ := hw
  have hB : bd D classes N0 N0 (w0 ++ [(a, .inr (CI_Sheets, [.ref r0, .ref r1, .ref r2, .null, .null, .null])), rwo r0 jo b0, la cL b0 2 (flv 2 0 (fun _ => 0)), rwo r1 jo b1, la cL b1 24 (flv 24 0 (fun _ => 0)), rwo r2 jo b2, la cL b2 60 (flv 60 (-1) (fun _ => 0)), rwo r3 jo b3, la cL b3 60 (flv 60 (-1) (fun _ => 0))]) s H locs := bd_app hB
  refine ptF (ty := .object "SheetTrees$Row") rfl hC (hin rfl) hB (w0.length + 0) (ap_get 0) rfl i_Sheets t_Sheets t_Sheets_ok n_Sheets 3 (by decide) rfl rfl rfl kw_83 (by decide +kernel) rfl rfl (Nat.le_of_ble_eq_true rfl) d_Sheets_init_64 (ap_set _ _) (fun H locs hB => ?_)
  have hB : bd D classes N0 N0 (w0 ++ [(a, .inr (CI_Sheets, [.ref r0, .ref r1, .ref r2, .ref r3, .null, .null])), rwo r0 jo b0, la cL b0 2 (flv 2 0 (fun _ => 0)), rwo r1 jo b1, la cL b1 24 (flv 24 0 (fun _ => 0)), rwo r2 jo b2, la cL b2 60 (flv 60 (-1) (fun _ => 0)), rwo r3 jo b3, la cL b3 60 (flv 60 (-1) (fun _ => 0))]) s H locs := hB
  refine lv_aload_n hx hb d_Sheets_init_67 rfl (lv_at hl 0 rfl) ?_
  refine nwo (ci := CI_Row) (fs := [.null, .null]) rfl hC hB rfl i_Row t_Row t_Row_ok kw_55 kw_56 kw_4 (fun j hj => by rcases (show j = 0 ∨ j = 1 by omega) with rfl | rfl <;> rfl) (Nat.le_of_ble_eq_true rfl) (Nat.le_of_ble_eq_true rfl) d_Sheets_init_68 (fun r4 H hB => ?_)
  have hB2 := hB
  have hB : bd D classes N0 N0 (w0 ++ [(a, .inr (CI_Sheets, [.ref r0, .ref r1, .ref r2, .ref r3, .null, .null])), rwo r0 jo b0, la cL b0 2 (flv 2 0 (fun _ => 0)), rwo r1 jo b1, la cL b1 24 (flv 24 0 (fun _ => 0)), rwo r2 jo b2, la cL b2 60 (flv 60 (-1) (fun _ => 0)), rwo r3 jo b3, la cL b3 60 (flv 60 (-1) (fun _ => 0)), (r4, .inr (CI_Row, [.null, .null]))]) s H locs := bd_app hB
  refine lv_dup hx hb d_Sheets_init_71 rfl ?_
  refine lv_aload_n hx hb d_Sheets_init_72 rfl (lv_at hl 1 rfl) ?_
  refine lv_bipush (v := 84) hx hb d_Sheets_init_73 (by decide) ?_
  refine lv_ldc2 (v := (-1)) hx hb hC.2.2.2.2.1 (hC.2.2.2.2.2.1 _ kw_75) d_Sheets_init_75 ?_
  refine kI hC hB2 (c_Row_init (w0 := w0 ++ [(a, .inr (CI_Sheets, [.ref r0, .ref r1, .ref r2, .ref r3, .null, .null])), rwo r0 jo b0, la cL b0 2 (flv 2 0 (fun _ => 0)), rwo r1 jo b1, la cL b1 24 (flv 24 0 (fun _ => 0)), rwo r2 jo b2, la cL b2 60 (flv 60 (-1) (fun _ => 0)), rwo r3 jo b3, la cL b3 60 (flv 60 (-1) (fun _ => 0))]) (n := 84) (by decide) (84 : Int32) rfl (-1)) allw_ok mf_Row_init kw_58 rfl kw_57 ⟨rfl, rfl, Nat.le_of_ble_eq_true rfl, Nat.le_of_ble_eq_true rfl⟩ rfl rfl hl.1 (Nat.le_of_ble_eq_true rfl) d_Sheets_init_78 ⟨Nat.le_of_ble_eq_true rfl, Nat.le_of_ble_eq_true rfl⟩ (fun H locs w hw hB => ?_)
  obtain ⟨b4, rfl⟩ := hw
  have hB : bd D classes N0 N0 (w0 ++ [(a, .inr (CI_Sheets, [.ref r0, .ref r1, .ref r2, .ref r3, .null, .null])), rwo r0 jo b0, la cL b0 2 (flv 2 0 (fun _ => 0)), rwo r1 jo b1, la cL b1 24 (flv 24 0 (fun _ => 0)), rwo r2 jo b2, la cL b2 60 (flv 60 (-1) (fun _ => 0)), rwo r3 jo b3, la cL b3 60 (flv 60 (-1) (fun _ => 0)), rwo r4 jo b4, la cL b4 84 (flv 84 (-1) (fun _ => 0))]) s H locs := bd_app hB
  refine ptF (ty := .object "SheetTrees$Row") rfl hC (hin rfl) hB (w0.length + 0) (ap_get 0) rfl i_Sheets t_Sheets t_Sheets_ok n_Sheets 4 (by decide) rfl rfl rfl kw_84 (by decide +kernel) rfl rfl (Nat.le_of_ble_eq_true rfl) d_Sheets_init_81 (ap_set _ _) (fun H locs hB => ?_)
  have hB : bd D classes N0 N0 (w0 ++ [(a, .inr (CI_Sheets, [.ref r0, .ref r1, .ref r2, .ref r3, .ref r4, .null])), rwo r0 jo b0, la cL b0 2 (flv 2 0 (fun _ => 0)), rwo r1 jo b1, la cL b1 24 (flv 24 0 (fun _ => 0)), rwo r2 jo b2, la cL b2 60 (flv 60 (-1) (fun _ => 0)), rwo r3 jo b3, la cL b3 60 (flv 60 (-1) (fun _ => 0)), rwo r4 jo b4, la cL b4 84 (flv 84 (-1) (fun _ => 0))]) s H locs := hB
  refine lv_aload_n hx hb d_Sheets_init_84 rfl (lv_at hl 0 rfl) ?_
  refine nwo (ci := CI_Row) (fs := [.null, .null]) rfl hC hB rfl i_Row t_Row t_Row_ok kw_55 kw_56 kw_4 (fun j hj => by rcases (show j = 0 ∨ j = 1 by omega) with rfl | rfl <;> rfl) (Nat.le_of_ble_eq_true rfl) (Nat.le_of_ble_eq_true rfl) d_Sheets_init_85 (fun r5 H hB => ?_)
  have hB2 := hB
  have hB : bd D classes N0 N0 (w0 ++ [(a, .inr (CI_Sheets, [.ref r0, .ref r1, .ref r2, .ref r3, .ref r4, .null])), rwo r0 jo b0, la cL b0 2 (flv 2 0 (fun _ => 0)), rwo r1 jo b1, la cL b1 24 (flv 24 0 (fun _ => 0)), rwo r2 jo b2, la cL b2 60 (flv 60 (-1) (fun _ => 0)), rwo r3 jo b3, la cL b3 60 (flv 60 (-1) (fun _ => 0)), rwo r4 jo b4, la cL b4 84 (flv 84 (-1) (fun _ => 0)), (r5, .inr (CI_Row, [.null, .null]))]) s H locs := bd_app hB
  refine lv_dup hx hb d_Sheets_init_88 rfl ?_
  refine lv_aload_n hx hb d_Sheets_init_89 rfl (lv_at hl 1 rfl) ?_
  refine lv_sipush (v := 1920) hx hb d_Sheets_init_90 (by decide) ?_
  refine lv_ldc2 (v := (-1)) hx hb hC.2.2.2.2.1 (hC.2.2.2.2.2.1 _ kw_75) d_Sheets_init_93 ?_
  refine kI hC hB2 (c_Row_init (w0 := w0 ++ [(a, .inr (CI_Sheets, [.ref r0, .ref r1, .ref r2, .ref r3, .ref r4, .null])), rwo r0 jo b0, la cL b0 2 (flv 2 0 (fun _ => 0)), rwo r1 jo b1, la cL b1 24 (flv 24 0 (fun _ => 0)), rwo r2 jo b2, la cL b2 60 (flv 60 (-1) (fun _ => 0)), rwo r3 jo b3, la cL b3 60 (flv 60 (-1) (fun _ => 0)), rwo r4 jo b4, la cL b4 84 (flv 84 (-1) (fun _ => 0))]) (n := 1920) (by decide) (1920 : Int32) rfl (-1)) allw_ok mf_Row_init kw_58 rfl kw_57 ⟨rfl, rfl, Nat.le_of_ble_eq_true rfl, Nat.le_of_ble_eq_true rfl⟩ rfl rfl hl.1 (Nat.le_of_ble_eq_true rfl) d_Sheets_init_96 ⟨Nat.le_of_ble_eq_true rfl, Nat.le_of_ble_eq_true rfl⟩ (fun H locs w hw hB => ?_)
  obtain ⟨b5, rfl⟩ := hw
  have hB : bd D classes N0 N0 (w0 ++ [(a, .inr (CI_Sheets, [.ref r0, .ref r1, .ref r2, .ref r3, .ref r4, .null])), rwo r0 jo b0, la cL b0 2 (flv 2 0 (fun _ => 0)), rwo r1 jo b1, la cL b1 24 (flv 24 0 (fun _ => 0)), rwo r2 jo b2, la cL b2 60 (flv 60 (-1) (fun _ => 0)), rwo r3 jo b3, la cL b3 60 (flv 60 (-1) (fun _ => 0)), rwo r4 jo b4, la cL b4 84 (flv 84 (-1) (fun _ => 0)), rwo r5 jo b5, la cL b5 1920 (flv 1920 (-1) (fun _ => 0))]) s H locs := bd_app hB
  refine ptF (ty := .object "SheetTrees$Row") rfl hC (hin rfl) hB (w0.length + 0) (ap_get 0) rfl i_Sheets t_Sheets t_Sheets_ok n_Sheets 5 (by decide) rfl rfl rfl kw_85 (by decide +kernel) rfl rfl (Nat.le_of_ble_eq_true rfl) d_Sheets_init_99 (ap_set _ _) (fun H locs hB => ?_)
  have hB : bd D classes N0 N0 (w0 ++ [(a, .inr (CI_Sheets, [.ref r0, .ref r1, .ref r2, .ref r3, .ref r4, .ref r5])), rwo r0 jo b0, la cL b0 2 (flv 2 0 (fun _ => 0)), rwo r1 jo b1, la cL b1 24 (flv 24 0 (fun _ => 0)), rwo r2 jo b2, la cL b2 60 (flv 60 (-1) (fun _ => 0)), rwo r3 jo b3, la cL b3 60 (flv 60 (-1) (fun _ => 0)), rwo r4 jo b4, la cL b4 84 (flv 84 (-1) (fun _ => 0)), rwo r5 jo b5, la cL b5 1920 (flv 1920 (-1) (fun _ => 0))]) s H locs := hB
  refine lv_aload_n hx hb d_Sheets_init_102 rfl (lv_at hl 0 rfl) ?_
  refine gt hC hB (w0.length + 0) (ap_get 0) rfl i_Sheets 0 (by decide) rfl kw_80 rfl d_Sheets_init_103 ?_
  refine lv_iconst (v := 0) hx hb d_Sheets_init_106 (by decide) ?_
  refine lv_lconst (v := 1) hx hb d_Sheets_init_107 (by decide) ?_
  refine kV hC hB (w0.length + 1) (ap_get 1) rfl (cg_Row_restore (q0 := w0.length + 1) (q1 := w0.length + 2) (by decide) (ap_get 1) (ap_get 2) 0 (by decide) 0 rfl 1) allw_ok mf_Row_restore kw_77 kw_78 kw_76 ⟨rfl, rfl, Nat.le_of_ble_eq_true rfl, Nat.le_of_ble_eq_true rfl⟩ rfl rfl hl.1 (Nat.le_of_ble_eq_true rfl) d_Sheets_init_108 ⟨Nat.le_of_ble_eq_true rfl, Nat.le_of_ble_eq_true rfl⟩ (fun H locs w hw hB => ?_)
  subst hw
  have hB : bd D classes N0 N0 (w0 ++ [(a, .inr (CI_Sheets, [.ref r0, .ref r1, .ref r2, .ref r3, .ref r4, .ref r5])), rwo r0 jo b0, la cL b0 2 (vp_updL (flv 2 0 (fun _ => 0)) 0 1), rwo r1 jo b1, la cL b1 24 (flv 24 0 (fun _ => 0)), rwo r2 jo b2, la cL b2 60 (flv 60 (-1) (fun _ => 0)), rwo r3 jo b3, la cL b3 60 (flv 60 (-1) (fun _ => 0)), rwo r4 jo b4, la cL b4 84 (flv 84 (-1) (fun _ => 0)), rwo r5 jo b5, la cL b5 1920 (flv 1920 (-1) (fun _ => 0))]) s H locs := by have hB := hB; rw [ap_set] at hB; exact hB
  exact rv hC hB ⟨r0, b0, r1, b1, r2, b2, r3, b3, r4, b4, r5, b5, rfl⟩ d_Sheets_init_111
set_option maxHeartbeats 1000000 in
set_option maxRecDepth 100000 in
theorem c_Book_init {w0 : va_W} {a sh : Nat} : CM l y_Book_init b_Book_init 2 (none) { frames := 1, cells := 6, slots := 1529, locals := 12 } D (tyL cI cL cQ) N0 N0 [.ref a, .ref sh] (w0 ++ [(a, .inr (CI_Book, [.null, .null, .null, .null, .null, .null, .null, .int 0]))]) (none) (fun w => ∃ c0 c1 c2 c3 c4 c5, w = w0 ++ [(a, .inr (CI_Book, [.ref sh, .ref c0, .ref c1, .ref c2, .ref c3, .ref c4, .ref c5, .int 0])), ia cI c0 301, ia cI c1 301, ia cI c2 301, ia cI c3 301, ia cI c4 301, ia cI c5 24]) 6 1529 := by
  refine met_of (own := R_Book) (by decide) rfl nwl_ok ?_
  intro p e s m below meth c hC hin hB
  have hx := hC.1
  have hb := hC.2.1
  have hl := lv_entry ([.ref a, .ref sh]) (n := 2) (Nat.le_of_ble_eq_true rfl)
  rw [lg_entry_eq]
  generalize (lg_sl ([.ref a, .ref sh]) ++ List.replicate (2 - (lg_sl ([.ref a, .ref sh])).length) Slot.unset).toArray = ls at hl ⊢
  have hl : lv_has ls 2 [(0, .ref a), (1, .ref sh)] := hl
  obtain ⟨locs, hlocs⟩ : ∃ z : List Loc, z = [] := ⟨_, rfl⟩
  rw [← hlocs] at hB ⊢
  refine lv_aload_n hx hb d_Book_init_0 rfl (lv_at hl 0 rfl) ?_
  refine oi hC kw_104 kw_23 kw_24 hl.1 d_Book_init_1 (Nat.le_of_ble_eq_true rfl) (Nat.le_of_ble_eq_true rfl) ?_
  refine lv_aload_n hx hb d_Book_init_4 rfl (lv_at hl 0 rfl) ?_
  refine lv_sipush (v := 301) hx hb d_Book_init_5 (by decide) ?_
  refine nwi (N' := 301) rfl hC hB 0 rfl kw_130 (by decide) (by decide) (by decide) (Nat.le_of_ble_eq_true rfl) (Nat.le_of_ble_eq_true rfl) d_Book_init_8 (fun c0 H hB => ?_)
  have hB : bd D classes N0 N0 (w0 ++ [(a, .inr (CI_Book, [.null, .null, .null, .null, .null, .null, .null, .int 0])), ia cI c0 301]) s H locs := bd_app hB
  refine ptF (ty := .array .int) rfl hC (hin rfl) hB (w0.length + 0) (ap_get 0) rfl i_Book t_Book t_Book_ok n_Book 1 (by decide) rfl rfl rfl kw_106 (by decide +kernel) rfl rfl (Nat.le_of_ble_eq_true rfl) d_Book_init_10 (ap_set _ _) (fun H locs hB => ?_)
  have hB : bd D classes N0 N0 (w0 ++ [(a, .inr (CI_Book, [.null, .ref c0, .null, .null, .null, .null, .null, .int 0])), ia cI c0 301]) s H locs := hB
  refine lv_aload_n hx hb d_Book_init_13 rfl (lv_at hl 0 rfl) ?_
  refine lv_sipush (v := 301) hx hb d_Book_init_14 (by decide) ?_
  refine nwi (N' := 301) rfl hC hB 0 rfl kw_130 (by decide) (by decide) (by decide) (Nat.le_of_ble_eq_true rfl) (Nat.le_of_ble_eq_true rfl) d_Book_init_17 (fun c1 H hB => ?_)
  have hB : bd D classes N0 N0 (w0 ++ [(a, .inr (CI_Book, [.null, .ref c0, .null, .null, .null, .null, .null, .int 0])), ia cI c0 301, ia cI c1 301]) s H locs := bd_app hB
  refine ptF (ty := .array .int) rfl hC (hin rfl) hB (w0.length + 0) (ap_get 0) rfl i_Book t_Book t_Book_ok n_Book 2 (by decide) rfl rfl rfl kw_107 (by decide +kernel) rfl rfl (Nat.le_of_ble_eq_true rfl) d_Book_init_19 (ap_set _ _) (fun H locs hB => ?_)
  have hB : bd D classes N0 N0 (w0 ++ [(a, .inr (CI_Book, [.null, .ref c0, .ref c1, .null, .null, .null, .null, .int 0])), ia cI c0 301, ia cI c1 301]) s H locs := hB
  refine lv_aload_n hx hb d_Book_init_22 rfl (lv_at hl 0 rfl) ?_
  refine lv_sipush (v := 301) hx hb d_Book_init_23 (by decide) ?_
  refine nwi (N' := 301) rfl hC hB 0 rfl kw_130 (by decide) (by decide) (by decide) (Nat.le_of_ble_eq_true rfl) (Nat.le_of_ble_eq_true rfl) d_Book_init_26 (fun c2 H hB => ?_)
  have hB : bd D classes N0 N0 (w0 ++ [(a, .inr (CI_Book, [.null, .ref c0, .ref c1, .null, .null, .null, .null, .int 0])), ia cI c0 301, ia cI c1 301, ia cI c2 301]) s H locs := bd_app hB
  refine ptF (ty := .array .int) rfl hC (hin rfl) hB (w0.length + 0) (ap_get 0) rfl i_Book t_Book t_Book_ok n_Book 3 (by decide) rfl rfl rfl kw_108 (by decide +kernel) rfl rfl (Nat.le_of_ble_eq_true rfl) d_Book_init_28 (ap_set _ _) (fun H locs hB => ?_)
  have hB : bd D classes N0 N0 (w0 ++ [(a, .inr (CI_Book, [.null, .ref c0, .ref c1, .ref c2, .null, .null, .null, .int 0])), ia cI c0 301, ia cI c1 301, ia cI c2 301]) s H locs := hB
  refine lv_aload_n hx hb d_Book_init_31 rfl (lv_at hl 0 rfl) ?_
  refine lv_sipush (v := 301) hx hb d_Book_init_32 (by decide) ?_
  refine nwi (N' := 301) rfl hC hB 0 rfl kw_130 (by decide) (by decide) (by decide) (Nat.le_of_ble_eq_true rfl) (Nat.le_of_ble_eq_true rfl) d_Book_init_35 (fun c3 H hB => ?_)
  have hB : bd D classes N0 N0 (w0 ++ [(a, .inr (CI_Book, [.null, .ref c0, .ref c1, .ref c2, .null, .null, .null, .int 0])), ia cI c0 301, ia cI c1 301, ia cI c2 301, ia cI c3 301]) s H locs := bd_app hB
  refine ptF (ty := .array .int) rfl hC (hin rfl) hB (w0.length + 0) (ap_get 0) rfl i_Book t_Book t_Book_ok n_Book 4 (by decide) rfl rfl rfl kw_109 (by decide +kernel) rfl rfl (Nat.le_of_ble_eq_true rfl) d_Book_init_37 (ap_set _ _) (fun H locs hB => ?_)
  have hB : bd D classes N0 N0 (w0 ++ [(a, .inr (CI_Book, [.null, .ref c0, .ref c1, .ref c2, .ref c3, .null, .null, .int 0])), ia cI c0 301, ia cI c1 301, ia cI c2 301, ia cI c3 301]) s H locs := hB
  refine lv_aload_n hx hb d_Book_init_40 rfl (lv_at hl 0 rfl) ?_
  refine lv_sipush (v := 301) hx hb d_Book_init_41 (by decide) ?_
  refine nwi (N' := 301) rfl hC hB 0 rfl kw_130 (by decide) (by decide) (by decide) (Nat.le_of_ble_eq_true rfl) (Nat.le_of_ble_eq_true rfl) d_Book_init_44 (fun c4 H hB => ?_)
  have hB : bd D classes N0 N0 (w0 ++ [(a, .inr (CI_Book, [.null, .ref c0, .ref c1, .ref c2, .ref c3, .null, .null, .int 0])), ia cI c0 301, ia cI c1 301, ia cI c2 301, ia cI c3 301, ia cI c4 301]) s H locs := bd_app hB
  refine ptF (ty := .array .int) rfl hC (hin rfl) hB (w0.length + 0) (ap_get 0) rfl i_Book t_Book t_Book_ok n_Book 5 (by decide) rfl rfl rfl kw_110 (by decide +kernel) rfl rfl (Nat.le_of_ble_eq_true rfl) d_Book_init_46 (ap_set _ _) (fun H locs hB => ?_)
  have hB : bd D classes N0 N0 (w0 ++ [(a, .inr (CI_Book, [.null, .ref c0, .ref c1, .ref c2, .ref c3, .ref c4, .null, .int 0])), ia cI c0 301, ia cI c1 301, ia cI c2 301, ia cI c3 301, ia cI c4 301]) s H locs := hB
  refine lv_aload_n hx hb d_Book_init_49 rfl (lv_at hl 0 rfl) ?_
  refine lv_bipush (v := 24) hx hb d_Book_init_50 (by decide) ?_
  refine nwi (N' := 24) rfl hC hB 0 rfl kw_130 (by decide) (by decide) (by decide) (Nat.le_of_ble_eq_true rfl) (Nat.le_of_ble_eq_true rfl) d_Book_init_52 (fun c5 H hB => ?_)
  have hB : bd D classes N0 N0 (w0 ++ [(a, .inr (CI_Book, [.null, .ref c0, .ref c1, .ref c2, .ref c3, .ref c4, .null, .int 0])), ia cI c0 301, ia cI c1 301, ia cI c2 301, ia cI c3 301, ia cI c4 301, ia cI c5 24]) s H locs := bd_app hB
  refine ptF (ty := .array .int) rfl hC (hin rfl) hB (w0.length + 0) (ap_get 0) rfl i_Book t_Book t_Book_ok n_Book 6 (by decide) rfl rfl rfl kw_111 (by decide +kernel) rfl rfl (Nat.le_of_ble_eq_true rfl) d_Book_init_54 (ap_set _ _) (fun H locs hB => ?_)
  have hB : bd D classes N0 N0 (w0 ++ [(a, .inr (CI_Book, [.null, .ref c0, .ref c1, .ref c2, .ref c3, .ref c4, .ref c5, .int 0])), ia cI c0 301, ia cI c1 301, ia cI c2 301, ia cI c3 301, ia cI c4 301, ia cI c5 24]) s H locs := hB
  refine lv_aload_n hx hb d_Book_init_57 rfl (lv_at hl 0 rfl) ?_
  refine lv_aload_n hx hb d_Book_init_58 rfl (lv_at hl 1 rfl) ?_
  refine ptF (ty := .object "SheetTrees$Sheets") rfl hC (hin rfl) hB (w0.length + 0) (ap_get 0) rfl i_Book t_Book t_Book_ok n_Book 0 (by decide) rfl rfl rfl kw_105 (by decide +kernel) rfl rfl (Nat.le_of_ble_eq_true rfl) d_Book_init_59 (ap_set _ _) (fun H locs hB => ?_)
  have hB : bd D classes N0 N0 (w0 ++ [(a, .inr (CI_Book, [.ref sh, .ref c0, .ref c1, .ref c2, .ref c3, .ref c4, .ref c5, .int 0])), ia cI c0 301, ia cI c1 301, ia cI c2 301, ia cI c3 301, ia cI c4 301, ia cI c5 24]) s H locs := hB
  exact rv hC hB ⟨c0, c1, c2, c3, c4, c5, rfl⟩ d_Book_init_62
set_option maxHeartbeats 1000000 in
set_option maxRecDepth 100000 in
theorem c_Parts_init {w0 : va_W} {a jo bk : Nat} : CM l y_Parts_init b_Parts_init 3 (none) { frames := 2, cells := 13, slots := 847, locals := 48 } D (tyL cI cL cQ) N0 N0 [.ref a, .ref jo, .ref bk] (w0 ++ [(a, .inr (CI_Parts, [.null, .null, .null, .null, .null, .null, .null, .null]))]) (none) (fun w => ∃ c0 r0 b0 r1 b1 r2 b2 r3 b3 r4 b4 r5 b5, w = w0 ++ [(a, .inr (CI_Parts, [.ref bk, .ref r0, .ref r1, .ref r2, .ref r3, .ref r4, .ref r5, .ref c0])), ia cI c0 30, rwo r0 jo b0, la cL b0 1 (flv 1 0 (fun _ => 0)), rwo r1 jo b1, la cL b1 30 (flv 30 0 (fun _ => 0)), rwo r2 jo b2, la cL b2 30 (flv 30 0 (fun _ => 0)), rwo r3 jo b3, la cL b3 240 (flv 240 (-1) (fun _ => 0)), rwo r4 jo b4, la cL b4 480 (flv 480 (-1) (fun _ => 0)), rwo r5 jo b5, la cL b5 24 (flv 24 0 (fun _ => 0))]) 13 847 := by
  refine met_of (own := R_Parts) (by decide) rfl nwl_ok ?_
  intro p e s m below meth c hC hin hB
  have hx := hC.1
  have hb := hC.2.1
  have hl := lv_entry ([.ref a, .ref jo, .ref bk]) (n := 3) (Nat.le_of_ble_eq_true rfl)
  rw [lg_entry_eq]
  generalize (lg_sl ([.ref a, .ref jo, .ref bk]) ++ List.replicate (3 - (lg_sl ([.ref a, .ref jo, .ref bk])).length) Slot.unset).toArray = ls at hl ⊢
  have hl : lv_has ls 3 [(0, .ref a), (1, .ref jo), (2, .ref bk)] := hl
  obtain ⟨locs, hlocs⟩ : ∃ z : List Loc, z = [] := ⟨_, rfl⟩
  rw [← hlocs] at hB ⊢
  refine lv_aload_n hx hb d_Parts_init_0 rfl (lv_at hl 0 rfl) ?_
  refine oi hC kw_136 kw_23 kw_24 hl.1 d_Parts_init_1 (Nat.le_of_ble_eq_true rfl) (Nat.le_of_ble_eq_true rfl) ?_
  refine lv_aload_n hx hb d_Parts_init_4 rfl (lv_at hl 0 rfl) ?_
  refine lv_bipush (v := 30) hx hb d_Parts_init_5 (by decide) ?_
  refine nwi (N' := 30) rfl hC hB 0 rfl kw_130 (by decide) (by decide) (by decide) (Nat.le_of_ble_eq_true rfl) (Nat.le_of_ble_eq_true rfl) d_Parts_init_7 (fun c0 H hB => ?_)
  have hB : bd D classes N0 N0 (w0 ++ [(a, .inr (CI_Parts, [.null, .null, .null, .null, .null, .null, .null, .null])), ia cI c0 30]) s H locs := bd_app hB
  refine ptF (ty := .array .int) rfl hC (hin rfl) hB (w0.length + 0) (ap_get 0) rfl i_Parts t_Parts t_Parts_ok n_Parts 7 (by decide) rfl rfl rfl kw_147 (by decide +kernel) rfl rfl (Nat.le_of_ble_eq_true rfl) d_Parts_init_9 (ap_set _ _) (fun H locs hB => ?_)
  have hB : bd D classes N0 N0 (w0 ++ [(a, .inr (CI_Parts, [.null, .null, .null, .null, .null, .null, .null, .ref c0])), ia cI c0 30]) s H locs := hB
  refine lv_aload_n hx hb d_Parts_init_12 rfl (lv_at hl 0 rfl) ?_
  refine lv_aload_n hx hb d_Parts_init_13 rfl (lv_at hl 2 rfl) ?_
  refine ptF (ty := .object "SheetTrees$Book") rfl hC (hin rfl) hB (w0.length + 0) (ap_get 0) rfl i_Parts t_Parts t_Parts_ok n_Parts 0 (by decide) rfl rfl rfl kw_140 (by decide +kernel) rfl rfl (Nat.le_of_ble_eq_true rfl) d_Parts_init_14 (ap_set _ _) (fun H locs hB => ?_)
  have hB : bd D classes N0 N0 (w0 ++ [(a, .inr (CI_Parts, [.ref bk, .null, .null, .null, .null, .null, .null, .ref c0])), ia cI c0 30]) s H locs := hB
  refine lv_aload_n hx hb d_Parts_init_17 rfl (lv_at hl 0 rfl) ?_
  refine nwo (ci := CI_Row) (fs := [.null, .null]) rfl hC hB rfl i_Row t_Row t_Row_ok kw_137 kw_56 kw_4 (fun j hj => by rcases (show j = 0 ∨ j = 1 by omega) with rfl | rfl <;> rfl) (Nat.le_of_ble_eq_true rfl) (Nat.le_of_ble_eq_true rfl) d_Parts_init_18 (fun r0 H hB => ?_)
  have hB2 := hB
  have hB : bd D classes N0 N0 (w0 ++ [(a, .inr (CI_Parts, [.ref bk, .null, .null, .null, .null, .null, .null, .ref c0])), ia cI c0 30, (r0, .inr (CI_Row, [.null, .null]))]) s H locs := bd_app hB
  refine lv_dup hx hb d_Parts_init_21 rfl ?_
  refine lv_aload_n hx hb d_Parts_init_22 rfl (lv_at hl 1 rfl) ?_
  refine lv_iconst (v := 1) hx hb d_Parts_init_23 (by decide) ?_
  refine lv_lconst (v := 0) hx hb d_Parts_init_24 (by decide) ?_
  refine kI hC hB2 (c_Row_init (w0 := w0 ++ [(a, .inr (CI_Parts, [.ref bk, .null, .null, .null, .null, .null, .null, .ref c0])), ia cI c0 30]) (n := 1) (by decide) (1 : Int32) rfl 0) allw_ok mf_Row_init kw_58 rfl kw_138 ⟨rfl, rfl, Nat.le_of_ble_eq_true rfl, Nat.le_of_ble_eq_true rfl⟩ rfl rfl hl.1 (Nat.le_of_ble_eq_true rfl) d_Parts_init_25 ⟨Nat.le_of_ble_eq_true rfl, Nat.le_of_ble_eq_true rfl⟩ (fun H locs w hw hB => ?_)
  obtain ⟨b0, rfl⟩ := hw
  have hB : bd D classes N0 N0 (w0 ++ [(a, .inr (CI_Parts, [.ref bk, .null, .null, .null, .null, .null, .null, .ref c0])), ia cI c0 30, rwo r0 jo b0, la cL b0 1 (flv 1 0 (fun _ => 0))]) s H locs := bd_app hB
  refine ptF (ty := .object "SheetTrees$Row") rfl hC (hin rfl) hB (w0.length + 0) (ap_get 0) rfl i_Parts t_Parts t_Parts_ok n_Parts 1 (by decide) rfl rfl rfl kw_141 (by decide +kernel) rfl rfl (Nat.le_of_ble_eq_true rfl) d_Parts_init_28 (ap_set _ _) (fun H locs hB => ?_)
  have hB : bd D classes N0 N0 (w0 ++ [(a, .inr (CI_Parts, [.ref bk, .ref r0, .null, .null, .null, .null, .null, .ref c0])), ia cI c0 30, rwo r0 jo b0, la cL b0 1 (flv 1 0 (fun _ => 0))]) s H locs := hB
  refine lv_aload_n hx hb d_Parts_init_31 rfl (lv_at hl 0 rfl) ?_
  refine nwo (ci := CI_Row) (fs := [.null, .null]) rfl hC hB rfl i_Row t_Row t_Row_ok kw_137 kw_56 kw_4 (fun j hj => by rcases (show j = 0 ∨ j = 1 by omega) with rfl | rfl <;> rfl) (Nat.le_of_ble_eq_true rfl) (Nat.le_of_ble_eq_true rfl) d_Parts_init_32 (fun r1 H hB => ?_)
  have hB2 := hB
  have hB : bd D classes N0 N0 (w0 ++ [(a, .inr (CI_Parts, [.ref bk, .ref r0, .null, .null, .null, .null, .null, .ref c0])), ia cI c0 30, rwo r0 jo b0, la cL b0 1 (flv 1 0 (fun _ => 0)), (r1, .inr (CI_Row, [.null, .null]))]) s H locs := bd_app hB
  refine lv_dup hx hb d_Parts_init_35 rfl ?_
  refine lv_aload_n hx hb d_Parts_init_36 rfl (lv_at hl 1 rfl) ?_
  refine lv_bipush (v := 30) hx hb d_Parts_init_37 (by decide) ?_
  refine lv_lconst (v := 0) hx hb d_Parts_init_39 (by decide) ?_
  refine kI hC hB2 (c_Row_init (w0 := w0 ++ [(a, .inr (CI_Parts, [.ref bk, .ref r0, .null, .null, .null, .null, .null, .ref c0])), ia cI c0 30, rwo r0 jo b0, la cL b0 1 (flv 1 0 (fun _ => 0))]) (n := 30) (by decide) (30 : Int32) rfl 0) allw_ok mf_Row_init kw_58 rfl kw_138 ⟨rfl, rfl, Nat.le_of_ble_eq_true rfl, Nat.le_of_ble_eq_true rfl⟩ rfl rfl hl.1 (Nat.le_of_ble_eq_true rfl) d_Parts_init_40 ⟨Nat.le_of_ble_eq_true rfl, Nat.le_of_ble_eq_true rfl⟩ (fun H locs w hw hB => ?_)
  obtain ⟨b1, rfl⟩ := hw
  have hB : bd D classes N0 N0 (w0 ++ [(a, .inr (CI_Parts, [.ref bk, .ref r0, .null, .null, .null, .null, .null, .ref c0])), ia cI c0 30, rwo r0 jo b0, la cL b0 1 (flv 1 0 (fun _ => 0)), rwo r1 jo b1, la cL b1 30 (flv 30 0 (fun _ => 0))]) s H locs := bd_app hB
  refine ptF (ty := .object "SheetTrees$Row") rfl hC (hin rfl) hB (w0.length + 0) (ap_get 0) rfl i_Parts t_Parts t_Parts_ok n_Parts 2 (by decide) rfl rfl rfl kw_142 (by decide +kernel) rfl rfl (Nat.le_of_ble_eq_true rfl) d_Parts_init_43 (ap_set _ _) (fun H locs hB => ?_)
  have hB : bd D classes N0 N0 (w0 ++ [(a, .inr (CI_Parts, [.ref bk, .ref r0, .ref r1, .null, .null, .null, .null, .ref c0])), ia cI c0 30, rwo r0 jo b0, la cL b0 1 (flv 1 0 (fun _ => 0)), rwo r1 jo b1, la cL b1 30 (flv 30 0 (fun _ => 0))]) s H locs := hB
  refine lv_aload_n hx hb d_Parts_init_46 rfl (lv_at hl 0 rfl) ?_
  refine nwo (ci := CI_Row) (fs := [.null, .null]) rfl hC hB rfl i_Row t_Row t_Row_ok kw_137 kw_56 kw_4 (fun j hj => by rcases (show j = 0 ∨ j = 1 by omega) with rfl | rfl <;> rfl) (Nat.le_of_ble_eq_true rfl) (Nat.le_of_ble_eq_true rfl) d_Parts_init_47 (fun r2 H hB => ?_)
  have hB2 := hB
  have hB : bd D classes N0 N0 (w0 ++ [(a, .inr (CI_Parts, [.ref bk, .ref r0, .ref r1, .null, .null, .null, .null, .ref c0])), ia cI c0 30, rwo r0 jo b0, la cL b0 1 (flv 1 0 (fun _ => 0)), rwo r1 jo b1, la cL b1 30 (flv 30 0 (fun _ => 0)), (r2, .inr (CI_Row, [.null, .null]))]) s H locs := bd_app hB
  refine lv_dup hx hb d_Parts_init_50 rfl ?_
  refine lv_aload_n hx hb d_Parts_init_51 rfl (lv_at hl 1 rfl) ?_
  refine lv_bipush (v := 30) hx hb d_Parts_init_52 (by decide) ?_
  refine lv_lconst (v := 0) hx hb d_Parts_init_54 (by decide) ?_
  refine kI hC hB2 (c_Row_init (w0 := w0 ++ [(a, .inr (CI_Parts, [.ref bk, .ref r0, .ref r1, .null, .null, .null, .null, .ref c0])), ia cI c0 30, rwo r0 jo b0, la cL b0 1 (flv 1 0 (fun _ => 0)), rwo r1 jo b1, la cL b1 30 (flv 30 0 (fun _ => 0))]) (n := 30) (by decide) (30 : Int32) rfl 0) allw_ok mf_Row_init kw_58 rfl kw_138 ⟨rfl, rfl, Nat.le_of_ble_eq_true rfl, Nat.le_of_ble_eq_true rfl⟩ rfl rfl hl.1 (Nat.le_of_ble_eq_true rfl) d_Parts_init_55 ⟨Nat.le_of_ble_eq_true rfl, Nat.le_of_ble_eq_true rfl⟩ (fun H locs w hw hB => ?_)
  obtain ⟨b2, rfl⟩ := hw
  have hB : bd D classes N0 N0 (w0 ++ [(a, .inr (CI_Parts, [.ref bk, .ref r0, .ref r1, .null, .null, .null, .null, .ref c0])), ia cI c0 30, rwo r0 jo b0, la cL b0 1 (flv 1 0 (fun _ => 0)), rwo r1 jo b1, la cL b1 30 (flv 30 0 (fun _ => 0)), rwo r2 jo b2, la cL b2 30 (flv 30 0 (fun _ => 0))]) s H locs := bd_app hB
  refine ptF (ty := .object "SheetTrees$Row") rfl hC (hin rfl) hB (w0.length + 0) (ap_get 0) rfl i_Parts t_Parts t_Parts_ok n_Parts 3 (by decide) rfl rfl rfl kw_143 (by decide +kernel) rfl rfl (Nat.le_of_ble_eq_true rfl) d_Parts_init_58 (ap_set _ _) (fun H locs hB => ?_)
  have hB : bd D classes N0 N0 (w0 ++ [(a, .inr (CI_Parts, [.ref bk, .ref r0, .ref r1, .ref r2, .null, .null, .null, .ref c0])), ia cI c0 30, rwo r0 jo b0, la cL b0 1 (flv 1 0 (fun _ => 0)), rwo r1 jo b1, la cL b1 30 (flv 30 0 (fun _ => 0)), rwo r2 jo b2, la cL b2 30 (flv 30 0 (fun _ => 0))]) s H locs := hB
  refine lv_aload_n hx hb d_Parts_init_61 rfl (lv_at hl 0 rfl) ?_
  refine nwo (ci := CI_Row) (fs := [.null, .null]) rfl hC hB rfl i_Row t_Row t_Row_ok kw_137 kw_56 kw_4 (fun j hj => by rcases (show j = 0 ∨ j = 1 by omega) with rfl | rfl <;> rfl) (Nat.le_of_ble_eq_true rfl) (Nat.le_of_ble_eq_true rfl) d_Parts_init_62 (fun r3 H hB => ?_)
  have hB2 := hB
  have hB : bd D classes N0 N0 (w0 ++ [(a, .inr (CI_Parts, [.ref bk, .ref r0, .ref r1, .ref r2, .null, .null, .null, .ref c0])), ia cI c0 30, rwo r0 jo b0, la cL b0 1 (flv 1 0 (fun _ => 0)), rwo r1 jo b1, la cL b1 30 (flv 30 0 (fun _ => 0)), rwo r2 jo b2, la cL b2 30 (flv 30 0 (fun _ => 0)), (r3, .inr (CI_Row, [.null, .null]))]) s H locs := bd_app hB
  refine lv_dup hx hb d_Parts_init_65 rfl ?_
  refine lv_aload_n hx hb d_Parts_init_66 rfl (lv_at hl 1 rfl) ?_
  refine lv_sipush (v := 240) hx hb d_Parts_init_67 (by decide) ?_
  refine lv_ldc2 (v := (-1)) hx hb hC.2.2.2.2.1 (hC.2.2.2.2.2.1 _ kw_139) d_Parts_init_70 ?_
  refine kI hC hB2 (c_Row_init (w0 := w0 ++ [(a, .inr (CI_Parts, [.ref bk, .ref r0, .ref r1, .ref r2, .null, .null, .null, .ref c0])), ia cI c0 30, rwo r0 jo b0, la cL b0 1 (flv 1 0 (fun _ => 0)), rwo r1 jo b1, la cL b1 30 (flv 30 0 (fun _ => 0)), rwo r2 jo b2, la cL b2 30 (flv 30 0 (fun _ => 0))]) (n := 240) (by decide) (240 : Int32) rfl (-1)) allw_ok mf_Row_init kw_58 rfl kw_138 ⟨rfl, rfl, Nat.le_of_ble_eq_true rfl, Nat.le_of_ble_eq_true rfl⟩ rfl rfl hl.1 (Nat.le_of_ble_eq_true rfl) d_Parts_init_73 ⟨Nat.le_of_ble_eq_true rfl, Nat.le_of_ble_eq_true rfl⟩ (fun H locs w hw hB => ?_)
  obtain ⟨b3, rfl⟩ := hw
  have hB : bd D classes N0 N0 (w0 ++ [(a, .inr (CI_Parts, [.ref bk, .ref r0, .ref r1, .ref r2, .null, .null, .null, .ref c0])), ia cI c0 30, rwo r0 jo b0, la cL b0 1 (flv 1 0 (fun _ => 0)), rwo r1 jo b1, la cL b1 30 (flv 30 0 (fun _ => 0)), rwo r2 jo b2, la cL b2 30 (flv 30 0 (fun _ => 0)), rwo r3 jo b3, la cL b3 240 (flv 240 (-1) (fun _ => 0))]) s H locs := bd_app hB
  refine ptF (ty := .object "SheetTrees$Row") rfl hC (hin rfl) hB (w0.length + 0) (ap_get 0) rfl i_Parts t_Parts t_Parts_ok n_Parts 4 (by decide) rfl rfl rfl kw_144 (by decide +kernel) rfl rfl (Nat.le_of_ble_eq_true rfl) d_Parts_init_76 (ap_set _ _) (fun H locs hB => ?_)
  have hB : bd D classes N0 N0 (w0 ++ [(a, .inr (CI_Parts, [.ref bk, .ref r0, .ref r1, .ref r2, .ref r3, .null, .null, .ref c0])), ia cI c0 30, rwo r0 jo b0, la cL b0 1 (flv 1 0 (fun _ => 0)), rwo r1 jo b1, la cL b1 30 (flv 30 0 (fun _ => 0)), rwo r2 jo b2, la cL b2 30 (flv 30 0 (fun _ => 0)), rwo r3 jo b3, la cL b3 240 (flv 240 (-1) (fun _ => 0))]) s H locs := hB
  refine lv_aload_n hx hb d_Parts_init_79 rfl (lv_at hl 0 rfl) ?_
  refine nwo (ci := CI_Row) (fs := [.null, .null]) rfl hC hB rfl i_Row t_Row t_Row_ok kw_137 kw_56 kw_4 (fun j hj => by rcases (show j = 0 ∨ j = 1 by omega) with rfl | rfl <;> rfl) (Nat.le_of_ble_eq_true rfl) (Nat.le_of_ble_eq_true rfl) d_Parts_init_80 (fun r4 H hB => ?_)
  have hB2 := hB
  have hB : bd D classes N0 N0 (w0 ++ [(a, .inr (CI_Parts, [.ref bk, .ref r0, .ref r1, .ref r2, .ref r3, .null, .null, .ref c0])), ia cI c0 30, rwo r0 jo b0, la cL b0 1 (flv 1 0 (fun _ => 0)), rwo r1 jo b1, la cL b1 30 (flv 30 0 (fun _ => 0)), rwo r2 jo b2, la cL b2 30 (flv 30 0 (fun _ => 0)), rwo r3 jo b3, la cL b3 240 (flv 240 (-1) (fun _ => 0)), (r4, .inr (CI_Row, [.null, .null]))]) s H locs := bd_app hB
  refine lv_dup hx hb d_Parts_init_83 rfl ?_
  refine lv_aload_n hx hb d_Parts_init_84 rfl (lv_at hl 1 rfl) ?_
  refine lv_sipush (v := 480) hx hb d_Parts_init_85 (by decide) ?_
  refine lv_ldc2 (v := (-1)) hx hb hC.2.2.2.2.1 (hC.2.2.2.2.2.1 _ kw_139) d_Parts_init_88 ?_
  refine kI hC hB2 (c_Row_init (w0 := w0 ++ [(a, .inr (CI_Parts, [.ref bk, .ref r0, .ref r1, .ref r2, .ref r3, .null, .null, .ref c0])), ia cI c0 30, rwo r0 jo b0, la cL b0 1 (flv 1 0 (fun _ => 0)), rwo r1 jo b1, la cL b1 30 (flv 30 0 (fun _ => 0)), rwo r2 jo b2, la cL b2 30 (flv 30 0 (fun _ => 0)), rwo r3 jo b3, la cL b3 240 (flv 240 (-1) (fun _ => 0))]) (n := 480) (by decide) (480 : Int32) rfl (-1)) allw_ok mf_Row_init kw_58 rfl kw_138 ⟨rfl, rfl, Nat.le_of_ble_eq_true rfl, Nat.le_of_ble_eq_true rfl⟩ rfl rfl hl.1 (Nat.le_of_ble_eq_true rfl) d_Parts_init_91 ⟨Nat.le_of_ble_eq_true rfl, Nat.le_of_ble_eq_true rfl⟩ (fun H locs w hw hB => ?_)
  obtain ⟨b4, rfl⟩ := hw
  have hB : bd D classes N0 N0 (w0 ++ [(a, .inr (CI_Parts, [.ref bk, .ref r0, .ref r1, .ref r2, .ref r3, .null, .null, .ref c0])), ia cI c0 30, rwo r0 jo b0, la cL b0 1 (flv 1 0 (fun _ => 0)), rwo r1 jo b1, la cL b1 30 (flv 30 0 (fun _ => 0)), rwo r2 jo b2, la cL b2 30 (flv 30 0 (fun _ => 0)), rwo r3 jo b3, la cL b3 240 (flv 240 (-1) (fun _ => 0)), rwo r4 jo b4, la cL b4 480 (flv 480 (-1) (fun _ => 0))]) s H locs := bd_app hB
  refine ptF (ty := .object "SheetTrees$Row") rfl hC (hin rfl) hB (w0.length + 0) (ap_get 0) rfl i_Parts t_Parts t_Parts_ok n_Parts 5 (by decide) rfl rfl rfl kw_145 (by decide +kernel) rfl rfl (Nat.le_of_ble_eq_true rfl) d_Parts_init_94 (ap_set _ _) (fun H locs hB => ?_)
  have hB : bd D classes N0 N0 (w0 ++ [(a, .inr (CI_Parts, [.ref bk, .ref r0, .ref r1, .ref r2, .ref r3, .ref r4, .null, .ref c0])), ia cI c0 30, rwo r0 jo b0, la cL b0 1 (flv 1 0 (fun _ => 0)), rwo r1 jo b1, la cL b1 30 (flv 30 0 (fun _ => 0)), rwo r2 jo b2, la cL b2 30 (flv 30 0 (fun _ => 0)), rwo r3 jo b3, la cL b3 240 (flv 240 (-1) (fun _ => 0)), rwo r4 jo b4, la cL b4 480 (flv 480 (-1) (fun _ => 0))]) s H locs := hB
  refine lv_aload_n hx hb d_Parts_init_97 rfl (lv_at hl 0 rfl) ?_
  refine nwo (ci := CI_Row) (fs := [.null, .null]) rfl hC hB rfl i_Row t_Row t_Row_ok kw_137 kw_56 kw_4 (fun j hj => by rcases (show j = 0 ∨ j = 1 by omega) with rfl | rfl <;> rfl) (Nat.le_of_ble_eq_true rfl) (Nat.le_of_ble_eq_true rfl) d_Parts_init_98 (fun r5 H hB => ?_)
  have hB2 := hB
  have hB : bd D classes N0 N0 (w0 ++ [(a, .inr (CI_Parts, [.ref bk, .ref r0, .ref r1, .ref r2, .ref r3, .ref r4, .null, .ref c0])), ia cI c0 30, rwo r0 jo b0, la cL b0 1 (flv 1 0 (fun _ => 0)), rwo r1 jo b1, la cL b1 30 (flv 30 0 (fun _ => 0)), rwo r2 jo b2, la cL b2 30 (flv 30 0 (fun _ => 0)), rwo r3 jo b3, la cL b3 240 (flv 240 (-1) (fun _ => 0)), rwo r4 jo b4, la cL b4 480 (flv 480 (-1) (fun _ => 0)), (r5, .inr (CI_Row, [.null, .null]))]) s H locs := bd_app hB
  refine lv_dup hx hb d_Parts_init_101 rfl ?_
  refine lv_aload_n hx hb d_Parts_init_102 rfl (lv_at hl 1 rfl) ?_
  refine lv_bipush (v := 24) hx hb d_Parts_init_103 (by decide) ?_
  refine lv_lconst (v := 0) hx hb d_Parts_init_105 (by decide) ?_
  refine kI hC hB2 (c_Row_init (w0 := w0 ++ [(a, .inr (CI_Parts, [.ref bk, .ref r0, .ref r1, .ref r2, .ref r3, .ref r4, .null, .ref c0])), ia cI c0 30, rwo r0 jo b0, la cL b0 1 (flv 1 0 (fun _ => 0)), rwo r1 jo b1, la cL b1 30 (flv 30 0 (fun _ => 0)), rwo r2 jo b2, la cL b2 30 (flv 30 0 (fun _ => 0)), rwo r3 jo b3, la cL b3 240 (flv 240 (-1) (fun _ => 0)), rwo r4 jo b4, la cL b4 480 (flv 480 (-1) (fun _ => 0))]) (n := 24) (by decide) (24 : Int32) rfl 0) allw_ok mf_Row_init kw_58 rfl kw_138 ⟨rfl, rfl, Nat.le_of_ble_eq_true rfl, Nat.le_of_ble_eq_true rfl⟩ rfl rfl hl.1 (Nat.le_of_ble_eq_true rfl) d_Parts_init_106 ⟨Nat.le_of_ble_eq_true rfl, Nat.le_of_ble_eq_true rfl⟩ (fun H locs w hw hB => ?_)
  obtain ⟨b5, rfl⟩ := hw
  have hB : bd D classes N0 N0 (w0 ++ [(a, .inr (CI_Parts, [.ref bk, .ref r0, .ref r1, .ref r2, .ref r3, .ref r4, .null, .ref c0])), ia cI c0 30, rwo r0 jo b0, la cL b0 1 (flv 1 0 (fun _ => 0)), rwo r1 jo b1, la cL b1 30 (flv 30 0 (fun _ => 0)), rwo r2 jo b2, la cL b2 30 (flv 30 0 (fun _ => 0)), rwo r3 jo b3, la cL b3 240 (flv 240 (-1) (fun _ => 0)), rwo r4 jo b4, la cL b4 480 (flv 480 (-1) (fun _ => 0)), rwo r5 jo b5, la cL b5 24 (flv 24 0 (fun _ => 0))]) s H locs := bd_app hB
  refine ptF (ty := .object "SheetTrees$Row") rfl hC (hin rfl) hB (w0.length + 0) (ap_get 0) rfl i_Parts t_Parts t_Parts_ok n_Parts 6 (by decide) rfl rfl rfl kw_146 (by decide +kernel) rfl rfl (Nat.le_of_ble_eq_true rfl) d_Parts_init_109 (ap_set _ _) (fun H locs hB => ?_)
  have hB : bd D classes N0 N0 (w0 ++ [(a, .inr (CI_Parts, [.ref bk, .ref r0, .ref r1, .ref r2, .ref r3, .ref r4, .ref r5, .ref c0])), ia cI c0 30, rwo r0 jo b0, la cL b0 1 (flv 1 0 (fun _ => 0)), rwo r1 jo b1, la cL b1 30 (flv 30 0 (fun _ => 0)), rwo r2 jo b2, la cL b2 30 (flv 30 0 (fun _ => 0)), rwo r3 jo b3, la cL b3 240 (flv 240 (-1) (fun _ => 0)), rwo r4 jo b4, la cL b4 480 (flv 480 (-1) (fun _ => 0)), rwo r5 jo b5, la cL b5 24 (flv 24 0 (fun _ => 0))]) s H locs := hB
  exact rv hC hB ⟨c0, r0, b0, r1, b1, r2, b2, r3, b3, r4, b4, r5, b5, rfl⟩ d_Parts_init_112
set_option maxHeartbeats 1000000 in
set_option maxRecDepth 100000 in
theorem c_Variants_init {w0 : va_W} {a jo bk : Nat} : CM l y_Variants_init b_Variants_init 3 (none) { frames := 2, cells := 12, slots := 1064, locals := 48 } D (tyL cI cL cQ) N0 N0 [.ref a, .ref jo, .ref bk] (w0 ++ [(a, .inr (CI_Variants, [.null, .null, .null, .null, .null, .null, .null]))]) (none) (fun w => ∃ r0 b0 r1 b1 r2 b2 r3 b3 r4 b4 r5 b5, w = w0 ++ [(a, .inr (CI_Variants, [.ref bk, .ref r0, .ref r1, .ref r2, .ref r3, .ref r4, .ref r5])), rwo r0 jo b0, la cL b0 2 (flv 2 0 (fun _ => 0)), rwo r1 jo b1, la cL b1 10 (flv 10 (-1) (fun _ => 0)), rwo r2 jo b2, la cL b2 40 (flv 40 (-1) (fun _ => 0)), rwo r3 jo b3, la cL b3 40 (flv 40 0 (fun _ => 0)), rwo r4 jo b4, la cL b4 40 (flv 40 0 (fun _ => 0)), rwo r5 jo b5, la cL b5 920 (flv 920 (-1) (fun _ => 0))]) 12 1064 := by
  refine met_of (own := R_Variants) (by decide) rfl nwl_ok ?_
  intro p e s m below meth c hC hin hB
  have hx := hC.1
  have hb := hC.2.1
  have hl := lv_entry ([.ref a, .ref jo, .ref bk]) (n := 3) (Nat.le_of_ble_eq_true rfl)
  rw [lg_entry_eq]
  generalize (lg_sl ([.ref a, .ref jo, .ref bk]) ++ List.replicate (3 - (lg_sl ([.ref a, .ref jo, .ref bk])).length) Slot.unset).toArray = ls at hl ⊢
  have hl : lv_has ls 3 [(0, .ref a), (1, .ref jo), (2, .ref bk)] := hl
  obtain ⟨locs, hlocs⟩ : ∃ z : List Loc, z = [] := ⟨_, rfl⟩
  rw [← hlocs] at hB ⊢
  refine lv_aload_n hx hb d_Variants_init_0 rfl (lv_at hl 0 rfl) ?_
  refine oi hC kw_170 kw_23 kw_24 hl.1 d_Variants_init_1 (Nat.le_of_ble_eq_true rfl) (Nat.le_of_ble_eq_true rfl) ?_
  refine lv_aload_n hx hb d_Variants_init_4 rfl (lv_at hl 0 rfl) ?_
  refine lv_aload_n hx hb d_Variants_init_5 rfl (lv_at hl 2 rfl) ?_
  refine ptF (ty := .object "SheetTrees$Book") rfl hC (hin rfl) hB (w0.length + 0) (ap_get 0) rfl i_Variants t_Variants t_Variants_ok n_Variants 0 (by decide) rfl rfl rfl kw_174 (by decide +kernel) rfl rfl (Nat.le_of_ble_eq_true rfl) d_Variants_init_6 (ap_set _ _) (fun H locs hB => ?_)
  have hB : bd D classes N0 N0 (w0 ++ [(a, .inr (CI_Variants, [.ref bk, .null, .null, .null, .null, .null, .null]))]) s H locs := hB
  refine lv_aload_n hx hb d_Variants_init_9 rfl (lv_at hl 0 rfl) ?_
  refine nwo (ci := CI_Row) (fs := [.null, .null]) rfl hC hB rfl i_Row t_Row t_Row_ok kw_171 kw_56 kw_4 (fun j hj => by rcases (show j = 0 ∨ j = 1 by omega) with rfl | rfl <;> rfl) (Nat.le_of_ble_eq_true rfl) (Nat.le_of_ble_eq_true rfl) d_Variants_init_10 (fun r0 H hB => ?_)
  have hB2 := hB
  have hB : bd D classes N0 N0 (w0 ++ [(a, .inr (CI_Variants, [.ref bk, .null, .null, .null, .null, .null, .null])), (r0, .inr (CI_Row, [.null, .null]))]) s H locs := bd_app hB
  refine lv_dup hx hb d_Variants_init_13 rfl ?_
  refine lv_aload_n hx hb d_Variants_init_14 rfl (lv_at hl 1 rfl) ?_
  refine lv_iconst (v := 2) hx hb d_Variants_init_15 (by decide) ?_
  refine lv_lconst (v := 0) hx hb d_Variants_init_16 (by decide) ?_
  refine kI hC hB2 (c_Row_init (w0 := w0 ++ [(a, .inr (CI_Variants, [.ref bk, .null, .null, .null, .null, .null, .null]))]) (n := 2) (by decide) (2 : Int32) rfl 0) allw_ok mf_Row_init kw_58 rfl kw_172 ⟨rfl, rfl, Nat.le_of_ble_eq_true rfl, Nat.le_of_ble_eq_true rfl⟩ rfl rfl hl.1 (Nat.le_of_ble_eq_true rfl) d_Variants_init_17 ⟨Nat.le_of_ble_eq_true rfl, Nat.le_of_ble_eq_true rfl⟩ (fun H locs w hw hB => ?_)
  obtain ⟨b0, rfl⟩ := hw
  have hB : bd D classes N0 N0 (w0 ++ [(a, .inr (CI_Variants, [.ref bk, .null, .null, .null, .null, .null, .null])), rwo r0 jo b0, la cL b0 2 (flv 2 0 (fun _ => 0))]) s H locs := bd_app hB
  refine ptF (ty := .object "SheetTrees$Row") rfl hC (hin rfl) hB (w0.length + 0) (ap_get 0) rfl i_Variants t_Variants t_Variants_ok n_Variants 1 (by decide) rfl rfl rfl kw_175 (by decide +kernel) rfl rfl (Nat.le_of_ble_eq_true rfl) d_Variants_init_20 (ap_set _ _) (fun H locs hB => ?_)
  have hB : bd D classes N0 N0 (w0 ++ [(a, .inr (CI_Variants, [.ref bk, .ref r0, .null, .null, .null, .null, .null])), rwo r0 jo b0, la cL b0 2 (flv 2 0 (fun _ => 0))]) s H locs := hB
  refine lv_aload_n hx hb d_Variants_init_23 rfl (lv_at hl 0 rfl) ?_
  refine nwo (ci := CI_Row) (fs := [.null, .null]) rfl hC hB rfl i_Row t_Row t_Row_ok kw_171 kw_56 kw_4 (fun j hj => by rcases (show j = 0 ∨ j = 1 by omega) with rfl | rfl <;> rfl) (Nat.le_of_ble_eq_true rfl) (Nat.le_of_ble_eq_true rfl) d_Variants_init_24 (fun r1 H hB => ?_)
  have hB2 := hB
  have hB : bd D classes N0 N0 (w0 ++ [(a, .inr (CI_Variants, [.ref bk, .ref r0, .null, .null, .null, .null, .null])), rwo r0 jo b0, la cL b0 2 (flv 2 0 (fun _ => 0)), (r1, .inr (CI_Row, [.null, .null]))]) s H locs := bd_app hB
  refine lv_dup hx hb d_Variants_init_27 rfl ?_
  refine lv_aload_n hx hb d_Variants_init_28 rfl (lv_at hl 1 rfl) ?_
  refine lv_bipush (v := 10) hx hb d_Variants_init_29 (by decide) ?_
  refine lv_ldc2 (v := (-1)) hx hb hC.2.2.2.2.1 (hC.2.2.2.2.2.1 _ kw_173) d_Variants_init_31 ?_
  refine kI hC hB2 (c_Row_init (w0 := w0 ++ [(a, .inr (CI_Variants, [.ref bk, .ref r0, .null, .null, .null, .null, .null])), rwo r0 jo b0, la cL b0 2 (flv 2 0 (fun _ => 0))]) (n := 10) (by decide) (10 : Int32) rfl (-1)) allw_ok mf_Row_init kw_58 rfl kw_172 ⟨rfl, rfl, Nat.le_of_ble_eq_true rfl, Nat.le_of_ble_eq_true rfl⟩ rfl rfl hl.1 (Nat.le_of_ble_eq_true rfl) d_Variants_init_34 ⟨Nat.le_of_ble_eq_true rfl, Nat.le_of_ble_eq_true rfl⟩ (fun H locs w hw hB => ?_)
  obtain ⟨b1, rfl⟩ := hw
  have hB : bd D classes N0 N0 (w0 ++ [(a, .inr (CI_Variants, [.ref bk, .ref r0, .null, .null, .null, .null, .null])), rwo r0 jo b0, la cL b0 2 (flv 2 0 (fun _ => 0)), rwo r1 jo b1, la cL b1 10 (flv 10 (-1) (fun _ => 0))]) s H locs := bd_app hB
  refine ptF (ty := .object "SheetTrees$Row") rfl hC (hin rfl) hB (w0.length + 0) (ap_get 0) rfl i_Variants t_Variants t_Variants_ok n_Variants 2 (by decide) rfl rfl rfl kw_176 (by decide +kernel) rfl rfl (Nat.le_of_ble_eq_true rfl) d_Variants_init_37 (ap_set _ _) (fun H locs hB => ?_)
  have hB : bd D classes N0 N0 (w0 ++ [(a, .inr (CI_Variants, [.ref bk, .ref r0, .ref r1, .null, .null, .null, .null])), rwo r0 jo b0, la cL b0 2 (flv 2 0 (fun _ => 0)), rwo r1 jo b1, la cL b1 10 (flv 10 (-1) (fun _ => 0))]) s H locs := hB
  refine lv_aload_n hx hb d_Variants_init_40 rfl (lv_at hl 0 rfl) ?_
  refine nwo (ci := CI_Row) (fs := [.null, .null]) rfl hC hB rfl i_Row t_Row t_Row_ok kw_171 kw_56 kw_4 (fun j hj => by rcases (show j = 0 ∨ j = 1 by omega) with rfl | rfl <;> rfl) (Nat.le_of_ble_eq_true rfl) (Nat.le_of_ble_eq_true rfl) d_Variants_init_41 (fun r2 H hB => ?_)
  have hB2 := hB
  have hB : bd D classes N0 N0 (w0 ++ [(a, .inr (CI_Variants, [.ref bk, .ref r0, .ref r1, .null, .null, .null, .null])), rwo r0 jo b0, la cL b0 2 (flv 2 0 (fun _ => 0)), rwo r1 jo b1, la cL b1 10 (flv 10 (-1) (fun _ => 0)), (r2, .inr (CI_Row, [.null, .null]))]) s H locs := bd_app hB
  refine lv_dup hx hb d_Variants_init_44 rfl ?_
  refine lv_aload_n hx hb d_Variants_init_45 rfl (lv_at hl 1 rfl) ?_
  refine lv_bipush (v := 40) hx hb d_Variants_init_46 (by decide) ?_
  refine lv_ldc2 (v := (-1)) hx hb hC.2.2.2.2.1 (hC.2.2.2.2.2.1 _ kw_173) d_Variants_init_48 ?_
  refine kI hC hB2 (c_Row_init (w0 := w0 ++ [(a, .inr (CI_Variants, [.ref bk, .ref r0, .ref r1, .null, .null, .null, .null])), rwo r0 jo b0, la cL b0 2 (flv 2 0 (fun _ => 0)), rwo r1 jo b1, la cL b1 10 (flv 10 (-1) (fun _ => 0))]) (n := 40) (by decide) (40 : Int32) rfl (-1)) allw_ok mf_Row_init kw_58 rfl kw_172 ⟨rfl, rfl, Nat.le_of_ble_eq_true rfl, Nat.le_of_ble_eq_true rfl⟩ rfl rfl hl.1 (Nat.le_of_ble_eq_true rfl) d_Variants_init_51 ⟨Nat.le_of_ble_eq_true rfl, Nat.le_of_ble_eq_true rfl⟩ (fun H locs w hw hB => ?_)
  obtain ⟨b2, rfl⟩ := hw
  have hB : bd D classes N0 N0 (w0 ++ [(a, .inr (CI_Variants, [.ref bk, .ref r0, .ref r1, .null, .null, .null, .null])), rwo r0 jo b0, la cL b0 2 (flv 2 0 (fun _ => 0)), rwo r1 jo b1, la cL b1 10 (flv 10 (-1) (fun _ => 0)), rwo r2 jo b2, la cL b2 40 (flv 40 (-1) (fun _ => 0))]) s H locs := bd_app hB
  refine ptF (ty := .object "SheetTrees$Row") rfl hC (hin rfl) hB (w0.length + 0) (ap_get 0) rfl i_Variants t_Variants t_Variants_ok n_Variants 3 (by decide) rfl rfl rfl kw_177 (by decide +kernel) rfl rfl (Nat.le_of_ble_eq_true rfl) d_Variants_init_54 (ap_set _ _) (fun H locs hB => ?_)
  have hB : bd D classes N0 N0 (w0 ++ [(a, .inr (CI_Variants, [.ref bk, .ref r0, .ref r1, .ref r2, .null, .null, .null])), rwo r0 jo b0, la cL b0 2 (flv 2 0 (fun _ => 0)), rwo r1 jo b1, la cL b1 10 (flv 10 (-1) (fun _ => 0)), rwo r2 jo b2, la cL b2 40 (flv 40 (-1) (fun _ => 0))]) s H locs := hB
  refine lv_aload_n hx hb d_Variants_init_57 rfl (lv_at hl 0 rfl) ?_
  refine nwo (ci := CI_Row) (fs := [.null, .null]) rfl hC hB rfl i_Row t_Row t_Row_ok kw_171 kw_56 kw_4 (fun j hj => by rcases (show j = 0 ∨ j = 1 by omega) with rfl | rfl <;> rfl) (Nat.le_of_ble_eq_true rfl) (Nat.le_of_ble_eq_true rfl) d_Variants_init_58 (fun r3 H hB => ?_)
  have hB2 := hB
  have hB : bd D classes N0 N0 (w0 ++ [(a, .inr (CI_Variants, [.ref bk, .ref r0, .ref r1, .ref r2, .null, .null, .null])), rwo r0 jo b0, la cL b0 2 (flv 2 0 (fun _ => 0)), rwo r1 jo b1, la cL b1 10 (flv 10 (-1) (fun _ => 0)), rwo r2 jo b2, la cL b2 40 (flv 40 (-1) (fun _ => 0)), (r3, .inr (CI_Row, [.null, .null]))]) s H locs := bd_app hB
  refine lv_dup hx hb d_Variants_init_61 rfl ?_
  refine lv_aload_n hx hb d_Variants_init_62 rfl (lv_at hl 1 rfl) ?_
  refine lv_bipush (v := 40) hx hb d_Variants_init_63 (by decide) ?_
  refine lv_lconst (v := 0) hx hb d_Variants_init_65 (by decide) ?_
  refine kI hC hB2 (c_Row_init (w0 := w0 ++ [(a, .inr (CI_Variants, [.ref bk, .ref r0, .ref r1, .ref r2, .null, .null, .null])), rwo r0 jo b0, la cL b0 2 (flv 2 0 (fun _ => 0)), rwo r1 jo b1, la cL b1 10 (flv 10 (-1) (fun _ => 0)), rwo r2 jo b2, la cL b2 40 (flv 40 (-1) (fun _ => 0))]) (n := 40) (by decide) (40 : Int32) rfl 0) allw_ok mf_Row_init kw_58 rfl kw_172 ⟨rfl, rfl, Nat.le_of_ble_eq_true rfl, Nat.le_of_ble_eq_true rfl⟩ rfl rfl hl.1 (Nat.le_of_ble_eq_true rfl) d_Variants_init_66 ⟨Nat.le_of_ble_eq_true rfl, Nat.le_of_ble_eq_true rfl⟩ (fun H locs w hw hB => ?_)
  obtain ⟨b3, rfl⟩ := hw
  have hB : bd D classes N0 N0 (w0 ++ [(a, .inr (CI_Variants, [.ref bk, .ref r0, .ref r1, .ref r2, .null, .null, .null])), rwo r0 jo b0, la cL b0 2 (flv 2 0 (fun _ => 0)), rwo r1 jo b1, la cL b1 10 (flv 10 (-1) (fun _ => 0)), rwo r2 jo b2, la cL b2 40 (flv 40 (-1) (fun _ => 0)), rwo r3 jo b3, la cL b3 40 (flv 40 0 (fun _ => 0))]) s H locs := bd_app hB
  refine ptF (ty := .object "SheetTrees$Row") rfl hC (hin rfl) hB (w0.length + 0) (ap_get 0) rfl i_Variants t_Variants t_Variants_ok n_Variants 4 (by decide) rfl rfl rfl kw_178 (by decide +kernel) rfl rfl (Nat.le_of_ble_eq_true rfl) d_Variants_init_69 (ap_set _ _) (fun H locs hB => ?_)
  have hB : bd D classes N0 N0 (w0 ++ [(a, .inr (CI_Variants, [.ref bk, .ref r0, .ref r1, .ref r2, .ref r3, .null, .null])), rwo r0 jo b0, la cL b0 2 (flv 2 0 (fun _ => 0)), rwo r1 jo b1, la cL b1 10 (flv 10 (-1) (fun _ => 0)), rwo r2 jo b2, la cL b2 40 (flv 40 (-1) (fun _ => 0)), rwo r3 jo b3, la cL b3 40 (flv 40 0 (fun _ => 0))]) s H locs := hB
  refine lv_aload_n hx hb d_Variants_init_72 rfl (lv_at hl 0 rfl) ?_
  refine nwo (ci := CI_Row) (fs := [.null, .null]) rfl hC hB rfl i_Row t_Row t_Row_ok kw_171 kw_56 kw_4 (fun j hj => by rcases (show j = 0 ∨ j = 1 by omega) with rfl | rfl <;> rfl) (Nat.le_of_ble_eq_true rfl) (Nat.le_of_ble_eq_true rfl) d_Variants_init_73 (fun r4 H hB => ?_)
  have hB2 := hB
  have hB : bd D classes N0 N0 (w0 ++ [(a, .inr (CI_Variants, [.ref bk, .ref r0, .ref r1, .ref r2, .ref r3, .null, .null])), rwo r0 jo b0, la cL b0 2 (flv 2 0 (fun _ => 0)), rwo r1 jo b1, la cL b1 10 (flv 10 (-1) (fun _ => 0)), rwo r2 jo b2, la cL b2 40 (flv 40 (-1) (fun _ => 0)), rwo r3 jo b3, la cL b3 40 (flv 40 0 (fun _ => 0)), (r4, .inr (CI_Row, [.null, .null]))]) s H locs := bd_app hB
  refine lv_dup hx hb d_Variants_init_76 rfl ?_
  refine lv_aload_n hx hb d_Variants_init_77 rfl (lv_at hl 1 rfl) ?_
  refine lv_bipush (v := 40) hx hb d_Variants_init_78 (by decide) ?_
  refine lv_lconst (v := 0) hx hb d_Variants_init_80 (by decide) ?_
  refine kI hC hB2 (c_Row_init (w0 := w0 ++ [(a, .inr (CI_Variants, [.ref bk, .ref r0, .ref r1, .ref r2, .ref r3, .null, .null])), rwo r0 jo b0, la cL b0 2 (flv 2 0 (fun _ => 0)), rwo r1 jo b1, la cL b1 10 (flv 10 (-1) (fun _ => 0)), rwo r2 jo b2, la cL b2 40 (flv 40 (-1) (fun _ => 0)), rwo r3 jo b3, la cL b3 40 (flv 40 0 (fun _ => 0))]) (n := 40) (by decide) (40 : Int32) rfl 0) allw_ok mf_Row_init kw_58 rfl kw_172 ⟨rfl, rfl, Nat.le_of_ble_eq_true rfl, Nat.le_of_ble_eq_true rfl⟩ rfl rfl hl.1 (Nat.le_of_ble_eq_true rfl) d_Variants_init_81 ⟨Nat.le_of_ble_eq_true rfl, Nat.le_of_ble_eq_true rfl⟩ (fun H locs w hw hB => ?_)
  obtain ⟨b4, rfl⟩ := hw
  have hB : bd D classes N0 N0 (w0 ++ [(a, .inr (CI_Variants, [.ref bk, .ref r0, .ref r1, .ref r2, .ref r3, .null, .null])), rwo r0 jo b0, la cL b0 2 (flv 2 0 (fun _ => 0)), rwo r1 jo b1, la cL b1 10 (flv 10 (-1) (fun _ => 0)), rwo r2 jo b2, la cL b2 40 (flv 40 (-1) (fun _ => 0)), rwo r3 jo b3, la cL b3 40 (flv 40 0 (fun _ => 0)), rwo r4 jo b4, la cL b4 40 (flv 40 0 (fun _ => 0))]) s H locs := bd_app hB
  refine ptF (ty := .object "SheetTrees$Row") rfl hC (hin rfl) hB (w0.length + 0) (ap_get 0) rfl i_Variants t_Variants t_Variants_ok n_Variants 5 (by decide) rfl rfl rfl kw_179 (by decide +kernel) rfl rfl (Nat.le_of_ble_eq_true rfl) d_Variants_init_84 (ap_set _ _) (fun H locs hB => ?_)
  have hB : bd D classes N0 N0 (w0 ++ [(a, .inr (CI_Variants, [.ref bk, .ref r0, .ref r1, .ref r2, .ref r3, .ref r4, .null])), rwo r0 jo b0, la cL b0 2 (flv 2 0 (fun _ => 0)), rwo r1 jo b1, la cL b1 10 (flv 10 (-1) (fun _ => 0)), rwo r2 jo b2, la cL b2 40 (flv 40 (-1) (fun _ => 0)), rwo r3 jo b3, la cL b3 40 (flv 40 0 (fun _ => 0)), rwo r4 jo b4, la cL b4 40 (flv 40 0 (fun _ => 0))]) s H locs := hB
  refine lv_aload_n hx hb d_Variants_init_87 rfl (lv_at hl 0 rfl) ?_
  refine nwo (ci := CI_Row) (fs := [.null, .null]) rfl hC hB rfl i_Row t_Row t_Row_ok kw_171 kw_56 kw_4 (fun j hj => by rcases (show j = 0 ∨ j = 1 by omega) with rfl | rfl <;> rfl) (Nat.le_of_ble_eq_true rfl) (Nat.le_of_ble_eq_true rfl) d_Variants_init_88 (fun r5 H hB => ?_)
  have hB2 := hB
  have hB : bd D classes N0 N0 (w0 ++ [(a, .inr (CI_Variants, [.ref bk, .ref r0, .ref r1, .ref r2, .ref r3, .ref r4, .null])), rwo r0 jo b0, la cL b0 2 (flv 2 0 (fun _ => 0)), rwo r1 jo b1, la cL b1 10 (flv 10 (-1) (fun _ => 0)), rwo r2 jo b2, la cL b2 40 (flv 40 (-1) (fun _ => 0)), rwo r3 jo b3, la cL b3 40 (flv 40 0 (fun _ => 0)), rwo r4 jo b4, la cL b4 40 (flv 40 0 (fun _ => 0)), (r5, .inr (CI_Row, [.null, .null]))]) s H locs := bd_app hB
  refine lv_dup hx hb d_Variants_init_91 rfl ?_
  refine lv_aload_n hx hb d_Variants_init_92 rfl (lv_at hl 1 rfl) ?_
  refine lv_sipush (v := 920) hx hb d_Variants_init_93 (by decide) ?_
  refine lv_ldc2 (v := (-1)) hx hb hC.2.2.2.2.1 (hC.2.2.2.2.2.1 _ kw_173) d_Variants_init_96 ?_
  refine kI hC hB2 (c_Row_init (w0 := w0 ++ [(a, .inr (CI_Variants, [.ref bk, .ref r0, .ref r1, .ref r2, .ref r3, .ref r4, .null])), rwo r0 jo b0, la cL b0 2 (flv 2 0 (fun _ => 0)), rwo r1 jo b1, la cL b1 10 (flv 10 (-1) (fun _ => 0)), rwo r2 jo b2, la cL b2 40 (flv 40 (-1) (fun _ => 0)), rwo r3 jo b3, la cL b3 40 (flv 40 0 (fun _ => 0)), rwo r4 jo b4, la cL b4 40 (flv 40 0 (fun _ => 0))]) (n := 920) (by decide) (920 : Int32) rfl (-1)) allw_ok mf_Row_init kw_58 rfl kw_172 ⟨rfl, rfl, Nat.le_of_ble_eq_true rfl, Nat.le_of_ble_eq_true rfl⟩ rfl rfl hl.1 (Nat.le_of_ble_eq_true rfl) d_Variants_init_99 ⟨Nat.le_of_ble_eq_true rfl, Nat.le_of_ble_eq_true rfl⟩ (fun H locs w hw hB => ?_)
  obtain ⟨b5, rfl⟩ := hw
  have hB : bd D classes N0 N0 (w0 ++ [(a, .inr (CI_Variants, [.ref bk, .ref r0, .ref r1, .ref r2, .ref r3, .ref r4, .null])), rwo r0 jo b0, la cL b0 2 (flv 2 0 (fun _ => 0)), rwo r1 jo b1, la cL b1 10 (flv 10 (-1) (fun _ => 0)), rwo r2 jo b2, la cL b2 40 (flv 40 (-1) (fun _ => 0)), rwo r3 jo b3, la cL b3 40 (flv 40 0 (fun _ => 0)), rwo r4 jo b4, la cL b4 40 (flv 40 0 (fun _ => 0)), rwo r5 jo b5, la cL b5 920 (flv 920 (-1) (fun _ => 0))]) s H locs := bd_app hB
  refine ptF (ty := .object "SheetTrees$Row") rfl hC (hin rfl) hB (w0.length + 0) (ap_get 0) rfl i_Variants t_Variants t_Variants_ok n_Variants 6 (by decide) rfl rfl rfl kw_180 (by decide +kernel) rfl rfl (Nat.le_of_ble_eq_true rfl) d_Variants_init_102 (ap_set _ _) (fun H locs hB => ?_)
  have hB : bd D classes N0 N0 (w0 ++ [(a, .inr (CI_Variants, [.ref bk, .ref r0, .ref r1, .ref r2, .ref r3, .ref r4, .ref r5])), rwo r0 jo b0, la cL b0 2 (flv 2 0 (fun _ => 0)), rwo r1 jo b1, la cL b1 10 (flv 10 (-1) (fun _ => 0)), rwo r2 jo b2, la cL b2 40 (flv 40 (-1) (fun _ => 0)), rwo r3 jo b3, la cL b3 40 (flv 40 0 (fun _ => 0)), rwo r4 jo b4, la cL b4 40 (flv 40 0 (fun _ => 0)), rwo r5 jo b5, la cL b5 920 (flv 920 (-1) (fun _ => 0))]) s H locs := hB
  exact rv hC hB ⟨r0, b0, r1, b1, r2, b2, r3, b3, r4, b4, r5, b5, rfl⟩ d_Variants_init_105
end CP
