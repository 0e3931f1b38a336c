def m_ST_page (σ : SC) (x0 : Int32) (x1 : Int32) : Option (Int32) :=
  match m_ST_needPage σ x0 with
  | none => none
  | some u_1 =>
    if x1 = 0 then
      some (m_Book_sheetAt σ x0)
    else
      if x1 = 1 then
        some (m_Book_placementAt σ x0)
      else
        if x1 = 2 then
          some (m_Book_pageAbove σ x0)
        else
          if x1 = 3 then
            some (m_Book_depthAt σ x0)
          else
            none

theorem tb_out (n : Nat) (x : Int32) (hn : n < 2 ^ 31) (h : ∀ k : Nat, k < n + 1 → x ≠ nI k) : x.toInt < 0 ∨ (n : Int) < x.toInt := by
  by_cases h0 : x < 0
  · exact Or.inl (Int32.lt_iff_toInt_lt.mp h0)
  · obtain ⟨j, hj, rfl⟩ := nI_of h0
    refine Or.inr ?_
    rw [nI_toInt hj]
    by_cases hk : j < n + 1
    · exact absurd rfl (h j hk)
    · omega
section SC
variable {l : Launch} {D : va_G} {N0 N1 : Nat} {G : Nat → Nat → Nat} {cI cL cQ : ClassId} {rest : va_W}
set_option maxHeartbeats 400000 in
set_option maxRecDepth 100000 in
theorem c_ST_page (σ : SC) (π : PJ) (x0 : Int32) (x1 : Int32) (RES : Int32) (hR : m_ST_page σ x0 x1 = some RES) : CM l y_ST_page b_ST_page 3 (some .int) { frames := 2, cells := 0, slots := 0, locals := 42 } D (tyL cI cL cQ) N0 N1 [.ref (G 0 0), .int x0, .int x1] (wsC G cI cL cQ σ π rest) (some (.int RES)) (fun w => w = wsC G cI cL cQ σ π rest) 0 0 := by
  refine met_of (own := R_ST) (by decide) rfl nwl_ok ?_
  intro p e s m below meth c hC hin hB
  have hx := hC.1
  have hb := hC.2.1
  have hl := lv_entry ([.ref (G 0 0), .int x0, .int x1]) (n := 3) (Nat.le_of_ble_eq_true rfl)
  rw [lg_entry_eq]
  generalize (lg_sl ([.ref (G 0 0), .int x0, .int x1]) ++ List.replicate (3 - (lg_sl ([.ref (G 0 0), .int x0, .int x1])).length) Slot.unset).toArray = ls at hl ⊢
  have hl : lv_has ls 3 [(0, .ref (G 0 0)), (1, .int x0), (2, .int x1)] := hl
  rw [m_ST_page] at hR
  refine lv_aload_n hx hb d_ST_page_0 rfl (lv_at hl 0 rfl) ?_
  refine lv_iload_n hx hb d_ST_page_1 rfl (lv_at hl 1 rfl) ?_
  obtain ⟨u_1, hq_1⟩ : ∃ z, m_ST_needPage σ x0 = some z := by
    cases hz : m_ST_needPage σ x0 with
    | none => rw [hz] at hR; cases hR
    | some z => exact ⟨z, rfl⟩
  rw [hq_1] at hR
  dsimp only at hR
  refine kV hC hB _ lkC_ST rfl (c_ST_needPage σ π x0 u_1 hq_1) allw_ok mf_ST_needPage kw_759 ks_22 kw_757 ⟨rfl, rfl, Nat.le_of_ble_eq_true rfl, Nat.le_of_ble_eq_true rfl⟩ rfl rfl hl.1 (Nat.le_of_ble_eq_true rfl) d_ST_page_2 ⟨Nat.le_of_ble_eq_true rfl, Nat.le_of_ble_eq_true rfl⟩ (roK fun H locs hB => ?_)
  refine lv_iload_n hx hb d_ST_page_5 rfl (lv_at hl 2 rfl) ?_
  by_cases c_2 : x1 = 0
  · rw [if_pos c_2] at hR
    refine lv_tableIn (off := 30) (tgt := 36) hx hb d_ST_page_6 (by rw [c_2]; decide) (by rw [c_2]; decide) (by rw [c_2]; rfl) (by decide) ?_
    refine lv_aload_n hx hb d_ST_page_36 rfl (lv_at hl 0 rfl) ?_
    refine gt hC hB _ lkC_ST rfl i_ST 2 (by decide) rfl kw_258 rfl d_ST_page_37 ?_
    refine lv_iload_n hx hb d_ST_page_40 rfl (lv_at hl 1 rfl) ?_
    refine kV hC hB _ lkC_Book rfl (c_Book_sheetAt σ π x0) allw_ok mf_Book_sheetAt kw_221 kw_222 kw_826 ⟨rfl, rfl, Nat.le_of_ble_eq_true rfl, Nat.le_of_ble_eq_true rfl⟩ rfl rfl hl.1 (Nat.le_of_ble_eq_true rfl) d_ST_page_41 ⟨Nat.le_of_ble_eq_true rfl, Nat.le_of_ble_eq_true rfl⟩ (roK fun H locs hB => ?_)
    obtain rfl := Option.some.inj hR
    exact ri hC hB rfl d_ST_page_44
  rw [if_neg c_2] at hR
  by_cases c_3 : x1 = 1
  · rw [if_pos c_3] at hR
    refine lv_tableIn (off := 39) (tgt := 45) hx hb d_ST_page_6 (by rw [c_3]; decide) (by rw [c_3]; decide) (by rw [c_3]; rfl) (by decide) ?_
    refine lv_aload_n hx hb d_ST_page_45 rfl (lv_at hl 0 rfl) ?_
    refine gt hC hB _ lkC_ST rfl i_ST 2 (by decide) rfl kw_258 rfl d_ST_page_46 ?_
    refine lv_iload_n hx hb d_ST_page_49 rfl (lv_at hl 1 rfl) ?_
    refine kV hC hB _ lkC_Book rfl (c_Book_placementAt σ π x0) allw_ok mf_Book_placementAt kw_237 kw_238 kw_827 ⟨rfl, rfl, Nat.le_of_ble_eq_true rfl, Nat.le_of_ble_eq_true rfl⟩ rfl rfl hl.1 (Nat.le_of_ble_eq_true rfl) d_ST_page_50 ⟨Nat.le_of_ble_eq_true rfl, Nat.le_of_ble_eq_true rfl⟩ (roK fun H locs hB => ?_)
    obtain rfl := Option.some.inj hR
    exact ri hC hB rfl d_ST_page_53
  rw [if_neg c_3] at hR
  by_cases c_4 : x1 = 2
  · rw [if_pos c_4] at hR
    refine lv_tableIn (off := 48) (tgt := 54) hx hb d_ST_page_6 (by rw [c_4]; decide) (by rw [c_4]; decide) (by rw [c_4]; rfl) (by decide) ?_
    refine lv_aload_n hx hb d_ST_page_54 rfl (lv_at hl 0 rfl) ?_
    refine gt hC hB _ lkC_ST rfl i_ST 2 (by decide) rfl kw_258 rfl d_ST_page_55 ?_
    refine lv_iload_n hx hb d_ST_page_58 rfl (lv_at hl 1 rfl) ?_
    refine kV hC hB _ lkC_Book rfl (c_Book_pageAbove σ π x0) allw_ok mf_Book_pageAbove kw_245 kw_246 kw_828 ⟨rfl, rfl, Nat.le_of_ble_eq_true rfl, Nat.le_of_ble_eq_true rfl⟩ rfl rfl hl.1 (Nat.le_of_ble_eq_true rfl) d_ST_page_59 ⟨Nat.le_of_ble_eq_true rfl, Nat.le_of_ble_eq_true rfl⟩ (roK fun H locs hB => ?_)
    obtain rfl := Option.some.inj hR
    exact ri hC hB rfl d_ST_page_62
  rw [if_neg c_4] at hR
  by_cases c_5 : x1 = 3
  · rw [if_pos c_5] at hR
    refine lv_tableIn (off := 57) (tgt := 63) hx hb d_ST_page_6 (by rw [c_5]; decide) (by rw [c_5]; decide) (by rw [c_5]; rfl) (by decide) ?_
    refine lv_aload_n hx hb d_ST_page_63 rfl (lv_at hl 0 rfl) ?_
    refine gt hC hB _ lkC_ST rfl i_ST 2 (by decide) rfl kw_258 rfl d_ST_page_64 ?_
    refine lv_iload_n hx hb d_ST_page_67 rfl (lv_at hl 1 rfl) ?_
    refine kV hC hB _ lkC_Book rfl (c_Book_depthAt σ π x0) allw_ok mf_Book_depthAt kw_253 kw_254 kw_829 ⟨rfl, rfl, Nat.le_of_ble_eq_true rfl, Nat.le_of_ble_eq_true rfl⟩ rfl rfl hl.1 (Nat.le_of_ble_eq_true rfl) d_ST_page_68 ⟨Nat.le_of_ble_eq_true rfl, Nat.le_of_ble_eq_true rfl⟩ (roK fun H locs hB => ?_)
    obtain rfl := Option.some.inj hR
    exact ri hC hB rfl d_ST_page_71
  rw [if_neg c_5] at hR
  refine lv_tableOut (tgt := 72) hx hb d_ST_page_6 (tb_out 3 x1 (by decide) (by intro k hk; match k, hk with | 0, _ => exact c_2 | 1, _ => exact c_3 | 2, _ => exact c_4 | 3, _ => exact c_5)) (by decide) ?_
  cases hR

set_option maxHeartbeats 400000 in
set_option maxRecDepth 100000 in
theorem x_ST_page (htl : l.stackTraces = false) (σ : SC) (π : PJ) (x0 : Int32) (x1 : Int32) (hR : m_ST_page σ x0 x1 = none) : MX l y_ST_page b_ST_page 3 (some .int) { frames := 7, cells := 1, slots := 6, locals := 111 } D classes (tyL cI cL cQ) NWL ALLW N0 N1 [.ref (G 0 0), .int x0, .int x1] (wsC G cI cL cQ σ π rest) "java/lang/IndexOutOfBoundsException" 1 6 := by
  refine mx_of (own := R_ST) (by decide) rfl nwl_ok ?_
  intro p e s m below meth c hC hex hSW hB
  have hB0 := hB
  have hx := hC.1
  have hb := hC.2.1
  have hl := lv_entry ([.ref (G 0 0), .int x0, .int x1]) (n := 3) (Nat.le_of_ble_eq_true rfl)
  rw [lg_entry_eq]
  generalize (lg_sl ([.ref (G 0 0), .int x0, .int x1]) ++ List.replicate (3 - (lg_sl ([.ref (G 0 0), .int x0, .int x1])).length) Slot.unset).toArray = ls at hl ⊢
  have hl : lv_has ls 3 [(0, .ref (G 0 0)), (1, .int x0), (2, .int x1)] := hl
  rw [m_ST_page] at hR
  refine lv_aload_n hx hb d_ST_page_0 rfl (lv_at hl 0 rfl) ?_
  refine lv_iload_n hx hb d_ST_page_1 rfl (lv_at hl 1 rfl) ?_
  rcases hq_1 : m_ST_needPage σ x0 with _ | u_1
  · refine kx hC hSW hB _ lkC_ST rfl (x_ST_needPage htl σ π x0 hq_1) allw_ok mf_ST_needPage kw_759 ks_22 kw_757 ⟨rfl, rfl, Nat.le_of_ble_eq_true rfl, Nat.le_of_ble_eq_true rfl⟩ rfl rfl hl.1 (Nat.le_of_ble_eq_true rfl) d_ST_page_2 ⟨Nat.le_of_ble_eq_true rfl, Nat.le_of_ble_eq_true rfl⟩ (fun q ce H locs hB h1 h2 h3 => ?_)
    exact tx_out hC hB (by rw [hex]; intro x hx; cases hx) h1 h2 h3 (Nat.le_of_ble_eq_true rfl) (Nat.le_of_ble_eq_true rfl)
  rw [hq_1] at hR
  dsimp only at hR
  refine kV hC hB _ lkC_ST rfl (c_ST_needPage σ π x0 u_1 hq_1) allw_ok mf_ST_needPage kw_759 ks_22 kw_757 ⟨rfl, rfl, Nat.le_of_ble_eq_true rfl, Nat.le_of_ble_eq_true rfl⟩ rfl rfl hl.1 (Nat.le_of_ble_eq_true rfl) d_ST_page_2 ⟨Nat.le_of_ble_eq_true rfl, Nat.le_of_ble_eq_true rfl⟩ (roK fun H locs hB => ?_)
  refine lv_iload_n hx hb d_ST_page_5 rfl (lv_at hl 2 rfl) ?_
  by_cases c_2 : x1 = 0
  · rw [if_pos c_2] at hR
    refine lv_tableIn (off := 30) (tgt := 36) hx hb d_ST_page_6 (by rw [c_2]; decide) (by rw [c_2]; decide) (by rw [c_2]; rfl) (by decide) ?_
    refine lv_aload_n hx hb d_ST_page_36 rfl (lv_at hl 0 rfl) ?_
    refine gt hC hB _ lkC_ST rfl i_ST 2 (by decide) rfl kw_258 rfl d_ST_page_37 ?_
    refine lv_iload_n hx hb d_ST_page_40 rfl (lv_at hl 1 rfl) ?_
    refine kV hC hB _ lkC_Book rfl (c_Book_sheetAt σ π x0) allw_ok mf_Book_sheetAt kw_221 kw_222 kw_826 ⟨rfl, rfl, Nat.le_of_ble_eq_true rfl, Nat.le_of_ble_eq_true rfl⟩ rfl rfl hl.1 (Nat.le_of_ble_eq_true rfl) d_ST_page_41 ⟨Nat.le_of_ble_eq_true rfl, Nat.le_of_ble_eq_true rfl⟩ (roK fun H locs hB => ?_)
    cases hR
  rw [if_neg c_2] at hR
  by_cases c_3 : x1 = 1
  · rw [if_pos c_3] at hR
    refine lv_tableIn (off := 39) (tgt := 45) hx hb d_ST_page_6 (by rw [c_3]; decide) (by rw [c_3]; decide) (by rw [c_3]; rfl) (by decide) ?_
    refine lv_aload_n hx hb d_ST_page_45 rfl (lv_at hl 0 rfl) ?_
    refine gt hC hB _ lkC_ST rfl i_ST 2 (by decide) rfl kw_258 rfl d_ST_page_46 ?_
    refine lv_iload_n hx hb d_ST_page_49 rfl (lv_at hl 1 rfl) ?_
    refine kV hC hB _ lkC_Book rfl (c_Book_placementAt σ π x0) allw_ok mf_Book_placementAt kw_237 kw_238 kw_827 ⟨rfl, rfl, Nat.le_of_ble_eq_true rfl, Nat.le_of_ble_eq_true rfl⟩ rfl rfl hl.1 (Nat.le_of_ble_eq_true rfl) d_ST_page_50 ⟨Nat.le_of_ble_eq_true rfl, Nat.le_of_ble_eq_true rfl⟩ (roK fun H locs hB => ?_)
    cases hR
  rw [if_neg c_3] at hR
  by_cases c_4 : x1 = 2
  · rw [if_pos c_4] at hR
    refine lv_tableIn (off := 48) (tgt := 54) hx hb d_ST_page_6 (by rw [c_4]; decide) (by rw [c_4]; decide) (by rw [c_4]; rfl) (by decide) ?_
    refine lv_aload_n hx hb d_ST_page_54 rfl (lv_at hl 0 rfl) ?_
    refine gt hC hB _ lkC_ST rfl i_ST 2 (by decide) rfl kw_258 rfl d_ST_page_55 ?_
    refine lv_iload_n hx hb d_ST_page_58 rfl (lv_at hl 1 rfl) ?_
    refine kV hC hB _ lkC_Book rfl (c_Book_pageAbove σ π x0) allw_ok mf_Book_pageAbove kw_245 kw_246 kw_828 ⟨rfl, rfl, Nat.le_of_ble_eq_true rfl, Nat.le_of_ble_eq_true rfl⟩ rfl rfl hl.1 (Nat.le_of_ble_eq_true rfl) d_ST_page_59 ⟨Nat.le_of_ble_eq_true rfl, Nat.le_of_ble_eq_true rfl⟩ (roK fun H locs hB => ?_)
    cases hR
  rw [if_neg c_4] at hR
  by_cases c_5 : x1 = 3
  · rw [if_pos c_5] at hR
    refine lv_tableIn (off := 57) (tgt := 63) hx hb d_ST_page_6 (by rw [c_5]; decide) (by rw [c_5]; decide) (by rw [c_5]; rfl) (by decide) ?_
    refine lv_aload_n hx hb d_ST_page_63 rfl (lv_at hl 0 rfl) ?_
    refine gt hC hB _ lkC_ST rfl i_ST 2 (by decide) rfl kw_258 rfl d_ST_page_64 ?_
    refine lv_iload_n hx hb d_ST_page_67 rfl (lv_at hl 1 rfl) ?_
    refine kV hC hB _ lkC_Book rfl (c_Book_depthAt σ π x0) allw_ok mf_Book_depthAt kw_253 kw_254 kw_829 ⟨rfl, rfl, Nat.le_of_ble_eq_true rfl, Nat.le_of_ble_eq_true rfl⟩ rfl rfl hl.1 (Nat.le_of_ble_eq_true rfl) d_ST_page_68 ⟨Nat.le_of_ble_eq_true rfl, Nat.le_of_ble_eq_true rfl⟩ (roK fun H locs hB => ?_)
    cases hR
  rw [if_neg c_5] at hR
  refine lv_tableOut (tgt := 72) hx hb d_ST_page_6 (tb_out 3 x1 (by decide) (by intro k hk; match k, hk with | 0, _ => exact c_2 | 1, _ => exact c_3 | 2, _ => exact c_4 | 3, _ => exact c_5)) (by decide) ?_
  obtain ⟨sa, hsa⟩ := hSW.2.1 _ (List.mem_of_getElem? (i := 9) rfl)
  exact tx_newS (names := ["java/lang/RuntimeException", "java/lang/Exception"]) htl hC hB0 hB (by decide) (by decide) (ownIO 220 _ hC.2.2.2.2.2.1 hSW own_IOB) kw_395 kw_15 hsa hl.1 d_ST_page_72 d_ST_page_75 d_ST_page_76 d_ST_page_78 d_ST_page_81 hex (Nat.le_of_ble_eq_true rfl) (Nat.le_of_ble_eq_true rfl) (Nat.le_of_ble_eq_true rfl) (Nat.le_of_ble_eq_true rfl) (Nat.le_of_ble_eq_true rfl) (Nat.le_of_ble_eq_true rfl)
end SC
