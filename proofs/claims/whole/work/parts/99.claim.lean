section LP
variable {p : Program} {l : Launch} {e : Env} {s : State} {m : MethodId} {below : List Frame} {meth : Method} {c : Code} {D : va_G} {G Gm : Nat → Nat → Nat} {cI cL cQ : ClassId} {b L : Nat} {xs : Nat → Int32} {o : Nat}
theorem six_lt {L n : Nat} (hL : L ≤ 3072) (hn : 6 * n ≤ L) (h : L < 6 * n + 6) : Int32.ofNat L - 6 < nI (6 * n) := by
  rw [Int32.lt_iff_toInt_lt, show Int32.ofNat L - 6 = nI L - nI 6 from rfl, pk_sub_toInt (by omega) (by omega), nI_toInt (by omega)]
  omega
theorem six_nlt {L n : Nat} (hL : L ≤ 3072) (h : 6 * n + 6 ≤ L) : ¬ Int32.ofNat L - 6 < nI (6 * n) := by
  rw [Int32.lt_iff_toInt_lt, show Int32.ofNat L - 6 = nI L - nI 6 from rfl, pk_sub_toInt (by omega) (by omega), nI_toInt (by omega)]
  omega
theorem lw_exit (hK : LC D cI cL cQ p l s m meth c b L xs) {n : Nat} (hn : 6 * n ≤ L) (hq : L < 6 * n + 6) {σ : SC} {π : PJ} {τ : SM} {f : Nat → Int64} {H : Heap} {locs : List Loc} {cells slots : Nat} {ls : Array Slot} (hπ : RJ π σ) (hR : RL n σ τ) (hc : cst n σ cells slots) (hB : bd D classes s.heap.size s.heap.size (wA G Gm cI cL cQ o σ π τ f) s H locs) (hl : lv_has ls 8 [(0, .ref b), (1, .ref (G 0 0)), (2, .ref (Gm 4 0)), (3, .ref o), (4, .int (nI (6 * n)))]) : WL p l e s m below meth c b H locs cells slots (F0 m 23 ls []) := by
  obtain ⟨hC, hSW, htl, hX, hbl, hL⟩ := id hK
  have hx := hC.1
  have hb := hC.2.1
  obtain ⟨hr1, hr2⟩ := cst_room hc hR (by omega)
  refine lv_iload hx hb d_Law_law_23 (lv_at hl 4 rfl) ?_
  refine lv_aload_n hx hb d_Law_law_25 rfl (lv_at hl 0 rfl) ?_
  refine va_slen (A := ga s.heap.size) hx hb hX hbl (Nat.not_le.mpr hbl) hB.2.2 d_Law_law_26 ?_
  refine lv_bipush (v := 6) hx hb d_Law_law_27 (by decide) ?_
  refine lv_isub hx hb d_Law_law_29 ?_
  refine lv_icmp_gt (tgt := 1668) hx hb d_Law_law_30 (by decide) (fun c_1 => ?_) (fun c_1 => absurd (six_lt hL hn hq) c_1)
  refine lv_iconst (v := 1) hx hb d_Law_law_1668 (by decide) ?_
  refine va_forget hB.2.2.2.2 ?_
  refine W.widen (k := 601024) (n := 7293034) (by have : room_1.cells = 601024 := rfl; omega) (by have : room_1.slots = 7293034 := rfl; omega) ?_
  exact lw_ret hx hb hC.2.2.1 hC.2.2.2.2.2.2.1 d_Law_law_1669
set_option maxHeartbeats 1000000 in
set_option maxRecDepth 100000 in
theorem lw_loop (hK : LC D cI cL cQ p l s m meth c b L xs) : ∀ (k n : Nat), L < 6 * (n + k) + 6 → 6 * n ≤ L → ∀ {σ : SC} {π : PJ} {τ : SM} {f : Nat → Int64} {H : Heap} {locs : List Loc} {cells slots : Nat} {ls : Array Slot} (hπ : RJ π σ) (hR : RL n σ τ) (hc : cst n σ cells slots) (hB : bd D classes s.heap.size s.heap.size (wA G Gm cI cL cQ o σ π τ f) s H locs) (hl : lv_has ls 8 [(0, .ref b), (1, .ref (G 0 0)), (2, .ref (Gm 4 0)), (3, .ref o), (4, .int (nI (6 * n)))]), WL p l e s m below meth c b H locs cells slots (F0 m 23 ls []) := by
  obtain ⟨hC, hSW, htl, hX, hbl, hL⟩ := id hK
  have hx := hC.1
  have hb := hC.2.1
  intro k
  induction k with
  | zero =>
    intro n h1 h2 σ π τ f H locs cells slots ls hπ hR hc hB hl
    exact lw_exit hK h2 (by omega) hπ hR hc hB hl
  | succ k ih =>
    intro n h1 h2 σ π τ f H locs cells slots ls hπ hR hc hB hl
    by_cases hq : 6 * n + 6 ≤ L
    · have hN : NX D G Gm cI cL cQ o p l e s m below meth c b n := by
        intro σ π τ f H locs cells slots ls hπ hR hc hB hl
        refine lv_iinc (v := nI (6 * (n + 1))) (lv' := [(4, .int (nI (6 * (n + 1)))), (0, .ref b), (1, .ref (G 0 0)), (2, .ref (Gm 4 0)), (3, .ref o)]) hx hb d_Law_law_1662 hl (k := 4) rfl (show nI (6 * n) + nI 6 = nI (6 * (n + 1)) by rw [nI_add]; rfl) (by decide) rfl (fun ls hl => ?_)
        refine lv_goto (tgt := 23) hx hb d_Law_law_1665 (by decide) ?_
        exact ih (n + 1) (by omega) (by omega) hπ hR hc hB (lv_sub hl [1, 2, 3, 4, 0] rfl)
      refine lv_iload hx hb d_Law_law_23 (lv_at hl 4 rfl) ?_
      refine lv_aload_n hx hb d_Law_law_25 rfl (lv_at hl 0 rfl) ?_
      refine va_slen (A := ga s.heap.size) hx hb hX hbl (Nat.not_le.mpr hbl) hB.2.2 d_Law_law_26 ?_
      refine lv_bipush (v := 6) hx hb d_Law_law_27 (by decide) ?_
      refine lv_isub hx hb d_Law_law_29 ?_
      refine lv_icmp_gt (tgt := 1668) hx hb d_Law_law_30 (by decide) (fun c_1 => absurd c_1 (six_nlt hL hq)) (fun c_1 => ?_)
      refine lv_aload_n hx hb d_Law_law_33 rfl (lv_at hl 0 rfl) ?_
      refine lv_iload hx hb d_Law_law_34 (lv_at hl 4 rfl) ?_
      refine va_sld (A := ga s.heap.size) hx hb hX hbl (Nat.not_le.mpr hbl) hB.2.2 (vp_in_nI (by omega) (by omega)) d_Law_law_36 ?_
      refine lv_bipush (v := 31) hx hb d_Law_law_37 (by decide) ?_
      refine lv_iand hx hb d_Law_law_39 ?_
      generalize xs (nI (6 * n)).toNatClampNeg &&& 31 = y
      by_cases hy : y < 0
      · refine lv_tableOut (tgt := 1662) hx hb d_Law_law_40 (Or.inl (by rw [Int32.lt_iff_toInt_lt] at hy; exact hy)) (by decide) ?_
        exact hN σ π τ f _ _ _ _ ls hπ (hR.up (by omega)) (cst_up hc (Nat.le_succ _) (by omega) (by omega)) hB hl
      obtain ⟨j, hj, rfl⟩ := nI_of hy
      rcases (show j = 0 ∨ j = 1 ∨ j = 2 ∨ j = 3 ∨ j = 4 ∨ j = 5 ∨ j = 6 ∨ j = 7 ∨ j = 8 ∨ j = 9 ∨ j = 10 ∨ j = 11 ∨ j = 12 ∨ j = 13 ∨ j = 14 ∨ j = 15 ∨ j = 16 ∨ j = 17 ∨ j = 18 ∨ j = 19 ∨ j = 20 ∨ j = 21 ∨ j = 22 ∨ 22 < j by omega) with rfl | rfl | rfl | rfl | rfl | rfl | rfl | rfl | rfl | rfl | rfl | rfl | rfl | rfl | rfl | rfl | rfl | rfl | rfl | rfl | rfl | rfl | rfl | hj22
      · refine lv_tableIn (off := 108) (tgt := 148) hx hb d_Law_law_40 (by decide) (by decide) (by decide) (by decide) ?_
        exact lw_sheet hK hq hN hπ hR hc hB hl
      · refine lv_tableIn (off := 121) (tgt := 161) hx hb d_Law_law_40 (by decide) (by decide) (by decide) (by decide) ?_
        exact lw_place hK hq hN hπ hR hc hB hl
      · refine lv_tableIn (off := 189) (tgt := 229) hx hb d_Law_law_40 (by decide) (by decide) (by decide) (by decide) ?_
        exact lw_remove hK hq hN hπ hR hc hB hl
      · refine lv_tableIn (off := 252) (tgt := 292) hx hb d_Law_law_40 (by decide) (by decide) (by decide) (by decide) ?_
        exact lw_move hK hq hN hπ hR hc hB hl
      · refine lv_tableIn (off := 327) (tgt := 367) hx hb d_Law_law_40 (by decide) (by decide) (by decide) (by decide) ?_
        exact lw_told hK hq hN hπ hR hc hB hl
      · refine lv_tableIn (off := 352) (tgt := 392) hx hb d_Law_law_40 (by decide) (by decide) (by decide) (by decide) ?_
        exact lw_port hK hq hN hπ hR hc hB hl
      · refine lv_tableIn (off := 427) (tgt := 467) hx hb d_Law_law_40 (by decide) (by decide) (by decide) (by decide) ?_
        exact lw_join hK hq hN hπ hR hc hB hl
      · refine lv_tableIn (off := 514) (tgt := 554) hx hb d_Law_law_40 (by decide) (by decide) (by decide) (by decide) ?_
        exact lw_joined hK hq hN hπ hR hc hB hl
      · refine lv_tableIn (off := 582) (tgt := 622) hx hb d_Law_law_40 (by decide) (by decide) (by decide) (by decide) ?_
        exact lw_part hK hq hN hπ hR hc hB hl
      · refine lv_tableIn (off := 650) (tgt := 690) hx hb d_Law_law_40 (by decide) (by decide) (by decide) (by decide) ?_
        exact lw_gate hK hq hN hπ hR hc hB hl
      · refine lv_tableIn (off := 737) (tgt := 777) hx hb d_Law_law_40 (by decide) (by decide) (by decide) (by decide) ?_
        exact lw_copy hK hq hN hπ hR hc hB hl
      · refine lv_tableIn (off := 793) (tgt := 833) hx hb d_Law_law_40 (by decide) (by decide) (by decide) (by decide) ?_
        exact lw_rule hK hq hN hπ hR hc hB hl
      · refine lv_tableIn (off := 856) (tgt := 896) hx hb d_Law_law_40 (by decide) (by decide) (by decide) (by decide) ?_
        exact lw_variant hK hq hN hπ hR hc hB hl
      · refine lv_tableIn (off := 912) (tgt := 952) hx hb d_Law_law_40 (by decide) (by decide) (by decide) (by decide) ?_
        exact lw_value hK hq hN hπ hR hc hB hl
      · refine lv_tableIn (off := 1043) (tgt := 1083) hx hb d_Law_law_40 (by decide) (by decide) (by decide) (by decide) ?_
        exact lw_fit hK hq hN hπ hR hc hB hl
      · refine lv_tableIn (off := 1158) (tgt := 1198) hx hb d_Law_law_40 (by decide) (by decide) (by decide) (by decide) ?_
        exact lw_valueOf hK hq hN hπ hR hc hB hl
      · refine lv_tableIn (off := 1237) (tgt := 1277) hx hb d_Law_law_40 (by decide) (by decide) (by decide) (by decide) ?_
        exact lw_fitted hK hq hN hπ hR hc hB hl
      · refine lv_tableIn (off := 1324) (tgt := 1364) hx hb d_Law_law_40 (by decide) (by decide) (by decide) (by decide) ?_
        exact lw_undo hK hq hN hπ hR hc hB hl
      · refine lv_tableIn (off := 1337) (tgt := 1377) hx hb d_Law_law_40 (by decide) (by decide) (by decide) (by decide) ?_
        exact lw_pages hK hq hN hπ hR hc hB hl
      · refine lv_tableIn (off := 1350) (tgt := 1390) hx hb d_Law_law_40 (by decide) (by decide) (by decide) (by decide) ?_
        exact lw_page hK hq hN hπ hR hc hB hl
      · refine lv_tableIn (off := 1418) (tgt := 1458) hx hb d_Law_law_40 (by decide) (by decide) (by decide) (by decide) ?_
        exact lw_units hK hq hN hπ hR hc hB hl
      · refine lv_tableIn (off := 1474) (tgt := 1514) hx hb d_Law_law_40 (by decide) (by decide) (by decide) (by decide) ?_
        exact lw_where hK hq hN hπ hR hc hB hl
      · refine lv_tableIn (off := 1554) (tgt := 1594) hx hb d_Law_law_40 (by decide) (by decide) (by decide) (by decide) ?_
        exact lw_name hK hq hN hπ hR hc hB hl
      · refine lv_tableOut (tgt := 1662) hx hb d_Law_law_40 (Or.inr (by rw [nI_toInt hj]; omega)) (by decide) ?_
        exact hN σ π τ f _ _ _ _ ls hπ (hR.up (by omega)) (cst_up hc (Nat.le_succ _) (by omega) (by omega)) hB hl
    · exact lw_exit hK h2 (by omega) hπ hR hc hB hl
end LP
theorem nwl_in : ∀ w ∈ NWL, w ∈ tables_1 := by
  have h : NWL.all (fun w => decide (w ∈ tables_1)) = true := by decide +kernel
  intro w hw
  exact of_decide_eq_true (List.all_eq_true.mp h w hw)
theorem swn_in : ∀ w ∈ SWn, w ∈ tables_1 := by
  have h : SWn.all (fun w => decide (w ∈ tables_1)) = true := by decide +kernel
  intro w hw
  exact of_decide_eq_true (List.all_eq_true.mp h w hw)
theorem strl_in : ∀ x ∈ STRL, x.1 = "SheetTrees" ∧ Cond.stringRef x.1 x.2.1 x.2.2 ∈ tables_1 := by
  have h : STRL.all (fun x => decide (x.1 = "SheetTrees" ∧ Cond.stringRef x.1 x.2.1 x.2.2 ∈ tables_1)) = true := by decide +kernel
  intro w hw
  exact of_decide_eq_true (List.all_eq_true.mp h w hw)
theorem nw_any {w : Cond} {A : Array Value} {s : State} (hw : nwOk w = true) (h : w.before A s = true) : va_Nw w s := by
  cases w <;> first | (simp [nwOk] at hw; done) | exact h
theorem sw_start {A : Array Value} {s : State} {cS : ClassId} (hts : ∀ w ∈ lw_tbl, w.before A s = true) (hgv : (Jvm.Cond.and given_1 narrow_1).before A s = true) (hS : s.vm.findClass "SheetTrees" = some cS) : SW s := by
  have hs := flat_of_before _ hgv
  refine ⟨fun w hw => ?_, fun x hx => ?_, fun w hw => ?_⟩
  · simp only [SWl, List.mem_cons, List.not_mem_nil, or_false] at hw
    rcases hw with rfl | rfl | rfl | rfl
    · exact hts (.laysStatic Bundle.tN "UNASSIGNED_STACK" Bundle.steD) (List.mem_append_right _ (List.mem_of_getElem? (i := 422) (by decide +kernel)))
    · exact hts (.laysStatic Bundle.tN "SUPPRESSED_SENTINEL" Bundle.listD) (List.mem_append_right _ (List.mem_of_getElem? (i := 424) (by decide +kernel)))
    · exact hs (.isRef (.static Bundle.tN "UNASSIGNED_STACK" Bundle.steD)) (by decide +kernel)
    · exact hs (.isRef (.static Bundle.tN "SUPPRESSED_SENTINEL" Bundle.listD)) (by decide +kernel)
  · obtain ⟨h1, h2⟩ := strl_in x hx
    have h3 := hts _ (List.mem_append_right _ h2)
    obtain ⟨k, cf, j, a, -, -, -, -, -, hev⟩ := Cond.stringRef_spec (by rw [h1]; exact hS) h3
    exact ⟨a, vk_R.of h3 hev⟩
  · have h3 := hts _ (List.mem_append_right _ (swn_in w hw))
    simp only [SWn, List.mem_cons, List.not_mem_nil, or_false] at hw
    rcases hw with rfl | rfl | rfl | rfl | rfl <;> exact h3
set_option maxHeartbeats 1000000 in
set_option maxRecDepth 100000 in
theorem whole_start {p : Program} {e : Env} {s : State} {m : MethodId} {below : List Frame} {meth : Method} {c : Code} (l : Launch) (htl : l.stackTraces = false) {b L : Nat} {xs : Nat → Int32} (hL : L ≤ 3072) (C0 : lw_At p s m meth c b L xs) : W p l e room_1 s m #[Value.ref b] below meth c s.heap [] 0 0 (lw_Z below #[Value.ref b] s) (entryFrame m ([Value.ref b] : List Value).toArray 8) := by
  obtain ⟨hx, hb, hr, hml, hown, hts, hX, hbl, hlocks, hgv⟩ := id C0
  have htsA : ∀ w ∈ ALLW, w.before #[Value.ref b] s = true := fun w h => hts w (List.mem_filter.mp h).1
  obtain ⟨c0, iS0, hKn0⟩ := u_known (C := R_ST) (T := F_ST) (N := 7) (n := 7) htsA i_ST (htsA _ kw_18)
  obtain ⟨c1, iS1, hKn1⟩ := u_known (C := R_Change) (T := F_Change) (N := 4) (n := 4) htsA i_Change (htsA _ kw_304)
  obtain ⟨c2, iS2, hKn2⟩ := u_known (C := R_Journal) (T := F_Journal) (N := 5) (n := 5) htsA i_Journal (htsA _ kw_26)
  obtain ⟨c3, iS3, hKn3⟩ := u_known (C := R_Row) (T := F_Row) (N := 2) (n := 2) htsA i_Row (htsA _ kw_56)
  obtain ⟨c4, iS4, hKn4⟩ := u_known (C := R_Sheets) (T := F_Sheets) (N := 6) (n := 6) htsA i_Sheets (htsA _ kw_50)
  obtain ⟨c5, iS5, hKn5⟩ := u_known (C := R_Book) (T := F_Book) (N := 8) (n := 8) htsA i_Book (htsA _ kw_100)
  obtain ⟨c6, iS6, hKn6⟩ := u_known (C := R_Parts) (T := F_Parts) (N := 8) (n := 8) htsA i_Parts (htsA _ kw_132)
  obtain ⟨c7, iS7, hKn7⟩ := u_known (C := R_Variants) (T := F_Variants) (N := 7) (n := 7) htsA i_Variants (htsA _ kw_166)
  obtain ⟨c8, iS8, hKn8⟩ := u_known (C := R_Mo) (T := F_Mo) (N := 19) (n := 19) htsA i_Mo (htsA _ kw_885)
  have hSW : SW s := sw_start hts hgv hKn0.2.1
  obtain ⟨dC, dI, hKc⟩ : ∃ (dC : Nat → ClassId) (dI : Nat → Nat → Nat), ∀ (k : Nat) (q : vw_C), classes[k]? = some q → u_Kn s q.1 q.2.1 q.2.2 (dC k) (dI k) := by
    refine ⟨fun k => match k with | 0 => c0 | 1 => c1 | 2 => c2 | 3 => c3 | 4 => c4 | 5 => c5 | 6 => c6 | 7 => c7 | _ => c8, fun k => match k with | 0 => iS0 | 1 => iS1 | 2 => iS2 | 3 => iS3 | 4 => iS4 | 5 => iS5 | 6 => iS6 | 7 => iS7 | _ => iS8, ?_⟩
    intro k q hq
    match k, hq with
    | 0, hq => cases hq; exact hKn0
    | 1, hq => cases hq; exact hKn1
    | 2, hq => cases hq; exact hKn2
    | 3, hq => cases hq; exact hKn3
    | 4, hq => cases hq; exact hKn4
    | 5, hq => cases hq; exact hKn5
    | 6, hq => cases hq; exact hKn6
    | 7, hq => cases hq; exact hKn7
    | 8, hq => cases hq; exact hKn8
    | k + 9, hq => simp [classes] at hq
  obtain ⟨cI, kIc, pI, hI1, hI2, hI3⟩ := Cond.arrayClass_spec (htsA _ kw_130)
  obtain ⟨cL, kL, pL, hL1, hL2, hL3⟩ := Cond.arrayClass_spec (htsA _ kw_74)
  have hAO : va_AO "SheetTrees$Change" s := va_AO.of (hts (.arrayOver (.object "SheetTrees$Change")) (List.mem_append_right _ (List.mem_of_getElem? (i := 32) (by decide +kernel))))
  obtain ⟨pQ, cQ, kQ, hQ1, -, hQ2, hQ3, hQ4⟩ := Cond.arrayOver_spec hAO
  have hK : va_K (dC, dI) classes (tyL cI cL cQ) s := by
    refine ⟨hKc, fun k q hk => ?_⟩
    match k, hk with
    | 0, hk => cases hk; exact ⟨fun n z => ⟨fun k h => (by cases h), kIc, hI2, pI, hI3⟩, hI1⟩
    | 1, hk => cases hk; exact ⟨fun n z => ⟨fun k h => (by cases h), kL, hL2, pL, hL3⟩, hL1⟩
    | 2, hk => cases hk; exact ⟨fun n z => ⟨fun k h => (by cases h), kQ, hQ2, pQ, hQ3⟩, kQ, pQ, hQ2, hQ3, hQ1, hQ4⟩
    | k + 3, hk => simp [tyL] at hk
  have hC : cx (dC, dI) classes (tyL cI cL cQ) NWL ALLW s.heap.size p s m #[Value.ref b] meth c b_Law_law 8 ret R_Law := ⟨hx, hb, hr, hml, hown, htsA, hlocks, ⟨hK, fun w hw => nw_any (nwl_ok w hw) (hts w (List.mem_append_right _ (nwl_in w hw)))⟩, Nat.le_refl _, nwl_ok⟩
  have hLC : LC (dC, dI) cI cL cQ p l s m meth c b L xs := ⟨hC, hSW, htl, hX, hbl, hL⟩
  have hB : bd (dC, dI) classes s.heap.size s.heap.size [] s s.heap [] := ⟨fun k q h => (by simp at h), ⟨fun i j p q h => (by simp at h), fun k q h => (by simp at h)⟩, va_S.rf⟩
  have hl := lv_entry ([.ref b]) (n := 8) (Nat.le_of_ble_eq_true rfl)
  rw [lg_entry_eq]
  generalize (lg_sl ([.ref b]) ++ List.replicate (8 - (lg_sl ([.ref b])).length) Slot.unset).toArray = ls at hl ⊢
  have hl : lv_has ls 8 [(0, .ref b)] := hl
  refine nwo (ci := CI_ST) (fs := [.null, .null, .null, .null, .null, .null, .int 0]) rfl hC hB rfl i_ST t_ST t_ST_ok kw_17 kw_18 kw_1 (fun j hj => by rcases (show j = 0 ∨ j = 1 ∨ j = 2 ∨ j = 3 ∨ j = 4 ∨ j = 5 ∨ j = 6 by omega) with rfl | rfl | rfl | rfl | rfl | rfl | rfl <;> rfl) (Nat.le_of_ble_eq_true rfl) (Nat.le_of_ble_eq_true rfl) d_Law_law_0 (fun a0 H0 hB0 => ?_)
  refine lv_dup hx hb d_Law_law_3 rfl ?_
  refine kIA hC hAO hB0 (c_ST_init (w0 := [])) allw_ok mf_ST_init kw_20 rfl kw_19 ⟨rfl, rfl, Nat.le_of_ble_eq_true rfl, Nat.le_of_ble_eq_true rfl⟩ rfl rfl hl.1 (Nat.le_of_ble_eq_true rfl) d_Law_law_4 ⟨Nat.le_of_ble_eq_true rfl, Nat.le_of_ble_eq_true rfl⟩ (fun H locs w hw hB => ?_)
  obtain ⟨G, hG, rfl⟩ := hw
  subst hG
  refine lv_astore_n (i := 1) (lv' := [(1, .ref (G 0 0)), (0, .ref b)]) hx hb d_Law_law_7 rfl hl (by decide) rfl (fun ls hl => ?_)
  refine nwo (ci := CI_Mo) (fs := [.int 0, .null, .null, .null, .int 0, .int 0, .int 0, .int 0, .int 0, .null, .null, .null, .null, .null, .null, .null, .null, .int 0, .long 0]) rfl hC hB rfl i_Mo t_Mo t_Mo_ok kw_884 kw_885 kw_10 (fun j hj => by rcases (show j = 0 ∨ j = 1 ∨ j = 2 ∨ j = 3 ∨ j = 4 ∨ j = 5 ∨ j = 6 ∨ j = 7 ∨ j = 8 ∨ j = 9 ∨ j = 10 ∨ j = 11 ∨ j = 12 ∨ j = 13 ∨ j = 14 ∨ j = 15 ∨ j = 16 ∨ j = 17 ∨ j = 18 by omega) with rfl | rfl | rfl | rfl | rfl | rfl | rfl | rfl | rfl | rfl | rfl | rfl | rfl | rfl | rfl | rfl | rfl | rfl | rfl <;> rfl) (Nat.le_of_ble_eq_true rfl) (Nat.le_of_ble_eq_true rfl) d_Law_law_8 (fun a1 H1 hB1 => ?_)
  refine lv_dup hx hb d_Law_law_11 rfl ?_
  refine kI hC hB1 (c_Mo_init (w0 := wsC G cI cL cQ (m_Book_lay si0) pi0 [])) allw_ok mf_Mo_init kw_887 rfl kw_886 ⟨rfl, rfl, Nat.le_of_ble_eq_true rfl, Nat.le_of_ble_eq_true rfl⟩ rfl rfl hl.1 (Nat.le_of_ble_eq_true rfl) d_Law_law_12 ⟨Nat.le_of_ble_eq_true rfl, Nat.le_of_ble_eq_true rfl⟩ (fun H2 locs2 w hw hB2 => ?_)
  obtain ⟨Gm, hGm, rfl⟩ := hw
  subst hGm
  refine lv_astore_n (i := 2) (lv' := [(2, .ref (Gm 4 0)), (1, .ref (G 0 0)), (0, .ref b)]) hx hb d_Law_law_15 rfl hl (by decide) rfl (fun ls hl => ?_)
  refine lv_iconst (v := 1) hx hb d_Law_law_16 (by decide) ?_
  refine nwl (N' := 1) rfl hC hB2 1 rfl kw_74 (by decide) (by decide) (by decide) (Nat.le_of_ble_eq_true rfl) (Nat.le_of_ble_eq_true rfl) d_Law_law_17 (fun o H hB => ?_)
  refine lv_astore_n (i := 3) (lv' := [(3, .ref o), (2, .ref (Gm 4 0)), (1, .ref (G 0 0)), (0, .ref b)]) hx hb d_Law_law_19 rfl hl (by decide) rfl (fun ls hl => ?_)
  refine lv_iconst (v := 0) hx hb d_Law_law_20 (by decide) ?_
  refine lv_istore (lv' := [(4, .int 0), (3, .ref o), (2, .ref (Gm 4 0)), (1, .ref (G 0 0)), (0, .ref b)]) hx hb d_Law_law_21 hl (by decide) rfl (fun ls hl => ?_)
  have hB : bd (dC, dI) classes s.heap.size s.heap.size (wA G Gm cI cL cQ o (m_Book_lay si0) pi0 ta0 (fun _ => 0)) s H locs2 := by
    refine bd_perm hB (List.Perm.trans ?_ wAB.symm)
    unfold wB
    rw [wsM_eq, wsM_eq, List.append_assoc]
    exact List.Perm.append_left _ (List.perm_append_singleton _ _)
  refine W.widen (k := 65) (n := 206886) (Nat.le_of_ble_eq_true rfl) (Nat.le_of_ble_eq_true rfl) ?_
  exact lw_loop hLC L 0 (by omega) (by omega) (rj_Book_lay rj0) RL0 ⟨by omega, by omega⟩ hB (lv_sub hl [4, 3, 2, 1, 0] rfl)
set_option maxHeartbeats 4000000 in
theorem lw_walk (l : Launch) (htl : l.stackTraces = false) (b : Addr) (xs : List Int32) : MetFree l x (headSpec (Jvm.Cond.code x code maxLocals ret :: tables_1) room_1) (lw_P b xs) (fun _ _ _ _ _ => True) lw_Q := by
  refine MetFree.of_bodyS (code := code) (maxLocals := maxLocals) (ret := ret) (by decide) ?_ ?_
  · intro args s m h hn
    obtain ⟨meth, c, h1, h2, h3, h4, h5, h6, -, -⟩ := Cond.code_spec hn (atoms_spec (ws := Jvm.Cond.code x code maxLocals ret :: tables_1) h _ List.mem_cons_self)
    exact ⟨meth, c, h1, h2, h3, h4, h5, h6⟩
  · intro p e s m args below meth c s₁ B hml0 hP _
    obtain ⟨rfl, hx, hbd, hgv⟩ := hP
    obtain ⟨scr, harrAt, hlist, hof, hsmall⟩ := hx
    obtain ⟨hcb, hkn, -, -⟩ := State.arrayAt?_spec harrAt
    have hown : s.vm.findClass R_law = some m.cls := findClass_of_methodNamed B.named
    have hts0 : ∀ c ∈ (Jvm.Cond.code x code maxLocals ret :: tables_1), c.before #[Value.ref b] s = true := atoms_spec (ws := Jvm.Cond.code x code maxLocals ret :: tables_1) B.pre
    have hts : ∀ w ∈ lw_tbl, w.before #[Value.ref b] s = true := k2_hts_sels lw_privs (fun w hw => hts0 w (List.mem_cons_of_mem _ hw)) lw_privs_ok
    have hml : c.maxLocals = 8 := B.maxLocals_eq (hts0 _ List.mem_cons_self)
    have X₀ : Stand p l e room_1 s m #[Value.ref b] below meth c s₁ [] 0 0 := Stand.of_body B
    have hh0 : s₁.heap = s.heap := by rw [B.state]; rfl
    have hsz : scr.slots.size = xs.length := by rw [← Array.length_toList, hlist, List.length_map]
    have hval : ∀ j : Nat, j < xs.length → scr.slots[j]? = some (.int (xs.getD j 0)) := fun j hj => by
      rw [← Array.getElem?_toList, hlist]
      simp [hj]
    have hbl : b < s.heap.size := (Array.getElem?_eq_some_iff.mp hcb).1
    have hX : va_X b xs.length (fun j => xs.getD j 0) s s.heap := ⟨scr, hcb, hof, hkn, hsz, hval⟩
    have K : W p l e room_1 s m #[Value.ref b] below meth c s₁.heap [] 0 0 (lw_Z below #[Value.ref b] s) (entryFrame m ([Value.ref b] : List Value).toArray 8) := by
      rw [hh0]
      exact whole_start l htl hbd ⟨B.exec, B.bytes, B.returns, hml, hown, hts, hX, hbl, B.notSynchronized, hgv⟩
    obtain ⟨t, a1, o, b1, b2, b3⟩ := K s₁ rfl X₀
    exact ⟨t, o, a1, b1, b2, b3⟩
theorem lw_pre_spec {args : Array Value} {s : State} (h : (Jvm.Cond.and given_1 narrow_1).before args s = true) (hr : rest_1_c.before args s = true) : ∃ (b : Addr) (xs : List Int32), lw_P b xs args s := by
  have hs := flat_of_before _ h
  have hq := flat_of_before _ hr
  have hc : (Cond.count 1).before args s = true := hs _ (by decide +kernel)
  have harr : (Cond.arrayOf (.arg 0) .int).before args s = true := hs _ (by decide +kernel)
  have hle : (Cond.le (.length (.arg 0)) (.int 3072)).before args s = true := hs _ (by decide +kernel)
  have hlen : (Cond.isInt (.length (.arg 0))).before args s = true := hq _ (by decide +kernel)
  have hall : (Cond.all (.arg 0) (.isInt (.elem (.arg 0) (.index 0)))).before args s = true := hq _ (by decide +kernel)
  obtain ⟨b, xs, hb, hx⟩ := State.ints_of_pre rfl harr hlen hall
  have hsm : xs.length < 2 ^ 31 := hx.choose_spec.2.2.2
  have hev : (Term.length (.arg 0)).eval args s none [] s = some (.int xs.length.toInt32) := hx.length_eval hb
  have hv := Cond.le_ints hev (show (Term.int 3072).eval args s none [] s = some (.int 3072) from rfl)
  have hd : xs.length.toInt32 ≤ 3072 := by
    simpa [Cond.before, Cond.holds, hv] using hle
  have hN : xs.length ≤ 3072 := (Int32.ofNat_le_ofNat hsm (by decide)).mp (show Int32.ofNat xs.length ≤ Int32.ofNat 3072 from hd)
  exact ⟨b, xs, Cond.one_arg hc (show args[0]? = some (.ref b) from hb), hx, hN, h⟩
theorem lw_comes (l : Launch) (htl : l.stackTraces = false) : Comes l x (Jvm.Cond.code x code maxLocals ret :: tables_1) room_1 (fun tb e args s => Calls_1 tb e args s ∧ rest_1 tb e args s ∧ Pre_1 tb e args s)
    (fun _ _ args s o t => lw_Q args s o t) := by
  intro p e ha hc hk s m args below hf hfit hheap happ hpre
  obtain ⟨b, xs, hP⟩ := lw_pre_spec hpre.2.2 hpre.2.1
  obtain ⟨k, o, h1, h2, h3, hQ⟩ := lw_walk l htl b xs p e ha hc hk s m args below hf ((Spec.applies_iff_loose hf).mp happ).1 hP trivial
  exact ⟨k, o, h1, h2, h3, hQ⟩
theorem lw_frame {s t : State} {o : Outcome} {args : Array Value} (h : Framed s o t [] 601024 7293034) :
    Framed s o t (fieldLocs frame_1_writes args s ++ arrayLocs frame_1_arrays args s ++ staticLocs frame_1_statics s) 601024 7293034 := h
theorem lw_limb (L : Cond) (hL : ∀ (args : Array Value) (s t : State), L.after args s (.returned (some (.int 1))) t = true) :
    ArmFor flags0 classFile x code maxLocals ret World_1 tables_1 room_1 Calls_1 rest_1 Pre_1
      (fun tb e a s o t => postC L tb e a s o t ∧ Framed s o t (fieldLocs frame_1_writes a s ++ arrayLocs frame_1_arrays a s ++ staticLocs frame_1_statics s) 601024 7293034) := by
  intro l hfl _ _ p e ha hc hk s m args below hf hfit hheap happ hpre
  have htl : l.stackTraces = false := by unfold Launch.stackTraces; rw [hfl]; decide +kernel
  obtain ⟨k, o, h1, h2, h3, rfl, hF⟩ := lw_comes l htl p e ha hc hk s m args below hf hfit hheap happ hpre
  exact ⟨k, _, h1, h2, h3, hL args s _, lw_frame hF⟩
theorem i_vc : Claimed_1_1 ∧ Claimed_1_2 := ⟨lw_limb limb_1_1 (fun args s t => by simp [limb_1_1, Cond.after, Cond.holds, Cond.value]), lw_limb limb_1_2 (fun args s t => Cond.after_iff.mpr (by
  first | (rw [show limb_1_2 = Cond.eq .result (.int 1) from rfl, Cond.eq_ints (x := 1) (y := 1) rfl rfl]; simp; done) | (simp [limb_1_2, Cond.value, Term.eval]; done)))⟩
