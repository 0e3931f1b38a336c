/-! THE CLAIM OUT OF ONE WALK OF THE LAW'S BODY. Your part is whole_start (and what it stands on); all else here is the same for every law, but numbers. -/
def R_law : String := "SheetTreesLaw"
def lw_P (b : Addr) (xs : List Int32) (args : Array Value) (s : State) : Prop := args = #[.ref b] ∧ s.IntsAt b xs ∧ xs.length ≤ 3072 ∧ (Jvm.Cond.and given_1 narrow_1).before args s = true
def lw_Q (_ : Array Value) (s : State) (o : Outcome) (t : State) : Prop := o = .returned (some (.int 1)) ∧ Framed s o t [] 601024 7293034
def lw_Z (below : List Frame) (a : Array Value) (s : State) : State → Prop := fun t => ∃ o, t.status = .running ∧ Ended t below o ∧ lw_Q a s o t
/-- the law's own end, with 1 on the stack, nothing written that was there before, its room as the claim has it -/
theorem lw_ret {p : Program} {l : Launch} {e : Env} {s : State} {m : MethodId} {below : List Frame} {meth : Method} {c : Code} {b : Nat} (hx : p.tables.exec = Jvm.exec) (hb : c.code = code) (hr : meth.sig.returnType = ret) (hlocks : meth.locks = false) {pc : Nat} {H : Heap} {ls : Array Slot} (hdg : decode code pc = .ok (.ireturn, 1)) : W p l e room_1 s m #[Value.ref b] below meth c H [] 601024 7293034 (lw_Z below #[Value.ref b] s) (F0 m pc ls [.int 1]) := by
  intro T hT X
  obtain ⟨fs, hret, hrun, hended, hW, hframe⟩ := X.leave (v := some (.int 1)) (hlocks := hlocks) (fun h => by rw [hr] at h; cases h)
  have hmeth' : T.vm.method? m = some meth := X.method'
  refine ⟨T.setFrames fs, ?_, .returned (some (.int 1)), hrun, hended, rfl, ⟨_, rfl⟩, hW, hframe⟩
  jvm_step X.here [X.here.top, hx, hb, hdg, hmeth', hr, ret, narrow_b1]
  (try refine ⟨rfl, ?_⟩); (try refine ⟨rfl, ?_⟩)
  first | (intro acts; rw [hret _ acts rfl rfl rfl]) | rw [hret _ _ rfl rfl rfl]
  exact Steps.refl _
/-- what holds at the law's entry: the machine, the code, the tables' words (any of lw_tbl by 'hts w (by decide +kernel)'), the script of L ints xs at the cell b, what the Statement gives of the start (any of its parts by flat_of_before) -/
def lw_At (p : Program) (s : State) (m : MethodId) (meth : Method) (c : Code) (b L : Nat) (xs : Nat → Int32) : Prop :=
  p.tables.exec = Jvm.exec ∧ c.code = code ∧ meth.sig.returnType = ret ∧ c.maxLocals = 8 ∧ s.vm.findClass R_law = some m.cls ∧ (∀ w ∈ lw_tbl, w.before #[Value.ref b] s = true) ∧ va_X b L xs s s.heap ∧ b < s.heap.size ∧ meth.locks = false ∧ (Jvm.Cond.and given_1 narrow_1).before #[Value.ref b] s = true
section LW
variable {p : Program} {l : Launch} {e : Env} {s : State} {m : MethodId} {below : List Frame} {meth : Method} {c : Code} {D : va_G} {G Gm : Nat → Nat → Nat} {cI cL cQ : ClassId} {b L : Nat} {xs : Nat → Int32} {o : Nat}
abbrev WL (p : Program) (l : Launch) (e : Env) (s : State) (m : MethodId) (below : List Frame) (meth : Method) (c : Code) (b : Nat) (H : Heap) (locs : List Loc) (cells slots : Nat) (g : JFrame) : Prop := W p l e room_1 s m #[Value.ref b] below meth c H locs cells slots (lw_Z below #[Value.ref b] s) g
/-- what the calls have used -/
def cst (n : Nat) (σ : SC) (cells slots : Nat) : Prop := cells ≤ 65 + 40 * n + 619 * (n + nsh σ) ∧ slots ≤ 206886 + 160 * n + 2476 * (n + nsh σ)
theorem cst_up {n cells slots cells' slots' : Nat} {σ σ' : SC} (h : cst n σ cells slots) (hns : nsh σ ≤ nsh σ' + 1) (h1 : cells' ≤ cells + 40) (h2 : slots' ≤ slots + 160) : cst (n + 1) σ' cells' slots' := by
  unfold cst at h ⊢
  omega
theorem cst_cp {n cells slots cells' slots' : Nat} {σ σ' : SC} (h : cst n σ cells slots) (hns : nsh σ' = nsh σ + 1) (h1 : cells' ≤ cells + 1238) (h2 : slots' ≤ slots + 4952) : cst (n + 1) σ' cells' slots' := by
  unfold cst at h ⊢
  omega
theorem nsh_le {n : Nat} {σ : SC} {τ : SM} (h : RL n σ τ) : nsh σ ≤ 24 := by
  obtain ⟨A, hA, -⟩ := h
  unfold nsh
  rw [hA.ns]
  exact hA.1.1.2.2.2
theorem cst_room {n cells slots : Nat} {σ : SC} {τ : SM} (h : cst n σ cells slots) (hR : RL n σ τ) (hn : n ≤ 512) : cells + 1300 ≤ room_1.cells ∧ slots + 5200 ≤ room_1.slots := by
  have := nsh_le hR
  unfold cst at h
  show cells + 1300 ≤ 601024 ∧ slots + 5200 ≤ 7293034
  omega
def wA (G Gm : Nat → Nat → Nat) (cI cL cQ : ClassId) (o : Nat) (σ : SC) (π : PJ) (τ : SM) (f : Nat → Int64) : va_W := wsC G cI cL cQ σ π (oc o cL f :: wsM Gm cI cL τ [])
def wB (G Gm : Nat → Nat → Nat) (cI cL cQ : ClassId) (o : Nat) (σ : SC) (π : PJ) (τ : SM) (f : Nat → Int64) : va_W := wsM Gm cI cL τ (oc o cL f :: wsC G cI cL cQ σ π [])
theorem wAB {σ : SC} {π : PJ} {τ : SM} {f : Nat → Int64} : (wA G Gm cI cL cQ o σ π τ f).Perm (wB G Gm cI cL cQ o σ π τ f) := by
  unfold wA wB
  rw [wsC_eq, wsC_eq, wsM_eq, wsM_eq, List.append_nil, List.nil_append]
  generalize wkC G cI cL cQ σ π = X
  generalize wkM Gm cI cL τ = Y
  generalize va_pl π.1 (cgC G π) = Z
  show (X ++ (oc o cL f :: (Y ++ Z))).Perm (Y ++ (oc o cL f :: (X ++ Z)))
  refine List.perm_middle.trans (List.Perm.trans (List.Perm.cons _ ?_) List.perm_middle.symm)
  rw [← List.append_assoc, ← List.append_assoc]
  exact List.perm_append_comm.append_right Z
theorem wB_out {σ : SC} {π : PJ} {τ : SM} {f : Nat → Int64} : (wB G Gm cI cL cQ o σ π τ f)[12]? = some (o, .inl (cL, 1, .inr (.inl f))) := rfl
/-- what stays the same in the law -/
def LC (D : va_G) (cI cL cQ : ClassId) (p : Program) (l : Launch) (s : State) (m : MethodId) (meth : Method) (c : Code) (b L : Nat) (xs : Nat → Int32) : Prop :=
  cx D classes (tyL cI cL cQ) NWL ALLW s.heap.size p s m #[Value.ref b] meth c b_Law_law 8 ret R_Law ∧ SW s ∧ l.stackTraces = false ∧ va_X b L xs s s.heap ∧ b < s.heap.size ∧ L ≤ 3072
/-- behind a call -/
def NX (D : va_G) (G Gm : Nat → Nat → Nat) (cI cL cQ : ClassId) (o : Nat) (p : Program) (l : Launch) (e : Env) (s : State) (m : MethodId) (below : List Frame) (meth : Method) (c : Code) (b n : Nat) : Prop :=
  ∀ (σ : SC) (π : PJ) (τ : SM) (f : Nat → Int64) (H : Heap) (locs : List Loc) (cells slots : Nat) (ls : Array Slot), RJ π σ → RL (n + 1) σ τ → cst (n + 1) σ cells slots → bd D classes s.heap.size s.heap.size (wA G Gm cI cL cQ o σ π τ f) s H locs → lv_has ls 8 [(0, .ref b), (1, .ref (G 0 0)), (2, .ref (Gm 4 0)), (3, .ref o), (4, .int (nI (6 * n)))] → WL p l e s m below meth c b H locs cells slots (F0 m 1662 ls [])
theorem rdj {n j pc : Nat} {jj : Int} {ls : Array Slot} {rest : List Value} {H : Heap} {locs : List Loc} {cells slots : Nat} (hK : LC D cI cL cQ p l s m meth c b L xs) (hn : 6 * n + 6 ≤ L) (hS : va_S (ga s.heap.size) s.heap H locs) (h0 : ls[0]? = some (.val (.ref b))) (h4 : ls[4]? = some (.val (.int (nI (6 * n))))) (hj : j < 6) (d0 : decode b_Law_law pc = .ok (.aload_n 0, 1)) (d1 : decode b_Law_law (pc + 1) = .ok (.iload 4, 2)) (d3 : decode b_Law_law (pc + 1 + 2) = .ok (.iconst jj, 1)) (hv : Int32.ofInt jj = nI j) (d4 : decode b_Law_law (pc + 1 + 2 + 1) = .ok (.iadd, 1)) (d5 : decode b_Law_law (pc + 1 + 2 + 1 + 1) = .ok (.iaload, 1))
    (kk : WL p l e s m below meth c b H locs cells slots (F0 m (pc + 1 + 2 + 1 + 1 + 1) ls (.int (xs (6 * n + j)) :: rest))) : WL p l e s m below meth c b H locs cells slots (F0 m pc ls rest) := by
  obtain ⟨hC, hSW, htl, hX, hbl, hL⟩ := hK
  have hx := hC.1
  have hb := hC.2.1
  refine lv_aload_n hx hb d0 rfl h0 ?_
  refine lv_iload hx hb d1 h4 ?_
  refine lv_iconst (v := nI j) hx hb d3 hv ?_
  refine lv_iadd hx hb d4 ?_
  rw [nI_add]
  refine va_sld (A := ga s.heap.size) hx hb hX hbl (Nat.not_le.mpr hbl) hS (vp_in_nI (by omega) (by omega)) d5 ?_
  rw [nI_clamp (by omega)]
  exact kk

set_option maxHeartbeats 1000000 in
set_option maxRecDepth 100000 in
theorem lw_sheet (hK : LC D cI cL cQ p l s m meth c b L xs) {n : Nat} (hn : 6 * n + 6 ≤ L) (hN : NX D G Gm cI cL cQ o p l e s m below meth c b n) {σ : SC} {π : PJ} {τ : SM} {f : Nat → Int64} {H : Heap} {locs : List Loc} {cells slots : Nat} {ls : Array Slot} (hπ : RJ π σ) (hR : RL n σ τ) (hc : cst n σ cells slots) (hB : bd D classes s.heap.size s.heap.size (wA G Gm cI cL cQ o σ π τ f) s H locs) (hl : lv_has ls 8 [(0, .ref b), (1, .ref (G 0 0)), (2, .ref (Gm 4 0)), (3, .ref o), (4, .int (nI (6 * n)))]) : WL p l e s m below meth c b H locs cells slots (F0 m 148 ls []) := by
  obtain ⟨hC, hSW, htl, hX, hbl, hL⟩ := id hK
  have hx := hC.1
  have hb := hC.2.1
  obtain ⟨hr1, hr2⟩ := cst_room hc hR (by omega)
  obtain ⟨ok1, ok2, ok3, ok4, ok5⟩ := op_sheet (c := n) (by omega) hR
  refine lv_aload_n hx hb d_Law_law_148 rfl (lv_at hl 1 rfl) ?_
  refine kV hC hB _ lkC_ST rfl (c_ST_sheet σ π hπ) allw_ok mf_ST_sheet kw_279 kw_280 kw_278 ⟨rfl, rfl, Nat.le_of_ble_eq_true rfl, Nat.le_of_ble_eq_true rfl⟩ rfl rfl hl.1 (Nat.le_of_ble_eq_true rfl) d_Law_law_149 ⟨by omega, by omega⟩ (fun H locs w hw hB => ?_)
  obtain ⟨π, hπ, rfl⟩ := hw
  have hB : bd D classes s.heap.size s.heap.size (wB G Gm cI cL cQ o ((m_ST_sheet σ).2) π τ f) s H locs := bd_perm hB wAB
  refine lv_aload_n hx hb d_Law_law_152 rfl (lv_at hl 2 rfl) ?_
  refine kV hC hB _ lkM_o rfl (c_Mo_sheet τ (eq_true ok1)) allw_ok mf_Mo_sheet kw_958 kw_959 kw_957 ⟨rfl, rfl, Nat.le_of_ble_eq_true rfl, Nat.le_of_ble_eq_true rfl⟩ rfl rfl hl.1 (Nat.le_of_ble_eq_true rfl) d_Law_law_153 ⟨by omega, by omega⟩ (fun H locs w hw hB => ?_)
  subst hw
  refine lv_icmp_eq (tgt := 1662) hx hb d_Law_law_156 (by decide) (fun c_1 => ?_) (fun c_1 => absurd (ok3) c_1)
  exact hN _ π ((m_Mo_sheet τ).2) f _ _ _ _ ls hπ ok4 (cst_up hc ok5 (by omega) (by omega)) (bd_perm hB wAB.symm) hl
set_option maxHeartbeats 1000000 in
set_option maxRecDepth 100000 in
theorem lw_place (hK : LC D cI cL cQ p l s m meth c b L xs) {n : Nat} (hn : 6 * n + 6 ≤ L) (hN : NX D G Gm cI cL cQ o p l e s m below meth c b n) {σ : SC} {π : PJ} {τ : SM} {f : Nat → Int64} {H : Heap} {locs : List Loc} {cells slots : Nat} {ls : Array Slot} (hπ : RJ π σ) (hR : RL n σ τ) (hc : cst n σ cells slots) (hB : bd D classes s.heap.size s.heap.size (wA G Gm cI cL cQ o σ π τ f) s H locs) (hl : lv_has ls 8 [(0, .ref b), (1, .ref (G 0 0)), (2, .ref (Gm 4 0)), (3, .ref o), (4, .int (nI (6 * n)))]) : WL p l e s m below meth c b H locs cells slots (F0 m 161 ls []) := by
  obtain ⟨hC, hSW, htl, hX, hbl, hL⟩ := id hK
  have hx := hC.1
  have hb := hC.2.1
  obtain ⟨hr1, hr2⟩ := cst_room hc hR (by omega)
  obtain ⟨ok1, ok2⟩ := op_place (c := n) (by omega) hR (xs (6 * n + 1)) (xs (6 * n + 2))
  rcases ok2 with ⟨hM, h0, hRL⟩ | ⟨v, σ2, hM, h0, hv, hRL, hns⟩
  · refine lv_aload_n hx hb d_Law_law_161 rfl (lv_at hl 1 rfl) ?_
    refine rdj hK hn hB.2.2 (lv_at hl 0 rfl) (lv_at hl 4 rfl) (j := 1) (by decide) d_Law_law_162 d_Law_law_163 d_Law_law_165 (by decide) d_Law_law_166 d_Law_law_167 ?_
    refine rdj hK hn hB.2.2 (lv_at hl 0 rfl) (lv_at hl 4 rfl) (j := 2) (by decide) d_Law_law_168 d_Law_law_169 d_Law_law_171 (by decide) d_Law_law_172 d_Law_law_173 ?_
    refine lv_aload_n hx hb d_Law_law_174 rfl (lv_at hl 3 rfl) ?_
    refine kSW hC hSW (Nat.le_refl _) hB (ht_place htl σ π hπ o f (xs (6 * n + 1)) (xs (6 * n + 2)) hM) allw_ok kw_381 kw_0 ⟨by decide, by decide⟩ (n := 4) (by decide +kernel) kw_380 kw_379 ⟨rfl, rfl, Nat.le_of_ble_eq_true rfl, Nat.le_of_ble_eq_true rfl⟩ rfl rfl hl.1 (Nat.le_of_ble_eq_true rfl) d_Law_law_175 ⟨by omega, by omega⟩ (fun H locs w hw hB => ?_)
    obtain ⟨π, hπ, rfl⟩ := hw
    have hB : bd D classes s.heap.size s.heap.size (wB G Gm cI cL cQ o σ π τ f) s H locs := bd_perm hB wAB
    refine lv_istore (lv' := [(5, .int 1), (0, .ref b), (1, .ref (G 0 0)), (2, .ref (Gm 4 0)), (3, .ref o), (4, .int (nI (6 * n)))]) hx hb d_Law_law_178 hl (by decide) rfl (fun ls hl => ?_)
    refine lv_aload_n hx hb d_Law_law_180 rfl (lv_at hl 3 rfl) ?_
    refine rdj hK hn hB.2.2 (lv_at hl 1 rfl) (lv_at hl 5 rfl) (j := 1) (by decide) d_Law_law_181 d_Law_law_182 d_Law_law_184 (by decide) d_Law_law_185 d_Law_law_186 ?_
    refine rdj hK hn hB.2.2 (lv_at hl 1 rfl) (lv_at hl 5 rfl) (j := 2) (by decide) d_Law_law_187 d_Law_law_188 d_Law_law_190 (by decide) d_Law_law_191 d_Law_law_192 ?_
    refine kV hC hB _ lkM_o rfl (c_Mo_place τ (xs (6 * n + 1)) (xs (6 * n + 2)) (eq_true ok1)) allw_ok mf_Mo_place kw_974 kw_975 kw_973 ⟨rfl, rfl, Nat.le_of_ble_eq_true rfl, Nat.le_of_ble_eq_true rfl⟩ rfl rfl hl.1 (Nat.le_of_ble_eq_true rfl) d_Law_law_193 ⟨by omega, by omega⟩ (fun H locs w hw hB => ?_)
    subst hw
    have hB : bd D classes s.heap.size s.heap.size (wB G Gm cI cL cQ o σ π ((m_Mo_place τ (xs (6 * n + 1)) (xs (6 * n + 2))).2) f) s H locs := hB
    refine lv_istore (lv' := [(6, .int ((m_Mo_place τ (xs (6 * n + 1)) (xs (6 * n + 2))).1)), (5, .int 1), (0, .ref b), (1, .ref (G 0 0)), (2, .ref (Gm 4 0)), (3, .ref o), (4, .int (nI (6 * n)))]) hx hb d_Law_law_196 hl (by decide) rfl (fun ls hl => ?_)
    refine lv_aload_n hx hb d_Law_law_198 rfl (lv_at hl 4 rfl) ?_
    refine kV hC hB _ lkM_o rfl (c_Mo_thrown ((m_Mo_place τ (xs (6 * n + 1)) (xs (6 * n + 2))).2) rfl) allw_ok mf_Mo_thrown kw_950 kw_951 kw_949 ⟨rfl, rfl, Nat.le_of_ble_eq_true rfl, Nat.le_of_ble_eq_true rfl⟩ rfl rfl hl.1 (Nat.le_of_ble_eq_true rfl) d_Law_law_199 ⟨by omega, by omega⟩ (roK fun H locs hB => ?_)
    refine lv_iload hx hb d_Law_law_202 (lv_at hl 1 rfl) ?_
    refine lv_icmp_eq (tgt := 209) hx hb d_Law_law_204 (by decide) (fun c_1 => ?_) (fun c_1 => absurd h0 c_1)
    refine lv_iload hx hb d_Law_law_209 (lv_at hl 1 rfl) ?_
    refine lv_if_ne (tgt := 226) hx hb d_Law_law_211 (by decide) (fun c_2 => ?_) (fun c_2 => absurd c_2 (by decide))
    refine lv_goto (tgt := 1662) hx hb d_Law_law_226 (by decide) ?_
    exact hN _ π ((m_Mo_place τ (xs (6 * n + 1)) (xs (6 * n + 2))).2) _ _ _ _ _ ls hπ hRL (cst_up hc (Nat.le_succ _) (by omega) (by omega)) (bd_perm hB wAB.symm) (lv_sub hl [2, 3, 4, 5, 6] rfl)
  · refine lv_aload_n hx hb d_Law_law_161 rfl (lv_at hl 1 rfl) ?_
    refine rdj hK hn hB.2.2 (lv_at hl 0 rfl) (lv_at hl 4 rfl) (j := 1) (by decide) d_Law_law_162 d_Law_law_163 d_Law_law_165 (by decide) d_Law_law_166 d_Law_law_167 ?_
    refine rdj hK hn hB.2.2 (lv_at hl 0 rfl) (lv_at hl 4 rfl) (j := 2) (by decide) d_Law_law_168 d_Law_law_169 d_Law_law_171 (by decide) d_Law_law_172 d_Law_law_173 ?_
    refine lv_aload_n hx hb d_Law_law_174 rfl (lv_at hl 3 rfl) ?_
    refine kSW hC hSW (Nat.le_refl _) hB (h_place σ π hπ o f (xs (6 * n + 1)) (xs (6 * n + 2)) (v, σ2) hM) allw_ok kw_381 kw_0 ⟨by decide, by decide⟩ (n := 4) (by decide +kernel) kw_380 kw_379 ⟨rfl, rfl, Nat.le_of_ble_eq_true rfl, Nat.le_of_ble_eq_true rfl⟩ rfl rfl hl.1 (Nat.le_of_ble_eq_true rfl) d_Law_law_175 ⟨by omega, by omega⟩ (fun H locs w hw hB => ?_)
    obtain ⟨π, hπ, rfl⟩ := hw
    have hB : bd D classes s.heap.size s.heap.size (wB G Gm cI cL cQ o σ2 π τ (vp_updL f 0 v.toInt64)) s H locs := bd_perm hB wAB
    refine lv_istore (lv' := [(5, .int 0), (0, .ref b), (1, .ref (G 0 0)), (2, .ref (Gm 4 0)), (3, .ref o), (4, .int (nI (6 * n)))]) hx hb d_Law_law_178 hl (by decide) rfl (fun ls hl => ?_)
    refine lv_aload_n hx hb d_Law_law_180 rfl (lv_at hl 3 rfl) ?_
    refine rdj hK hn hB.2.2 (lv_at hl 1 rfl) (lv_at hl 5 rfl) (j := 1) (by decide) d_Law_law_181 d_Law_law_182 d_Law_law_184 (by decide) d_Law_law_185 d_Law_law_186 ?_
    refine rdj hK hn hB.2.2 (lv_at hl 1 rfl) (lv_at hl 5 rfl) (j := 2) (by decide) d_Law_law_187 d_Law_law_188 d_Law_law_190 (by decide) d_Law_law_191 d_Law_law_192 ?_
    refine kV hC hB _ lkM_o rfl (c_Mo_place τ (xs (6 * n + 1)) (xs (6 * n + 2)) (eq_true ok1)) allw_ok mf_Mo_place kw_974 kw_975 kw_973 ⟨rfl, rfl, Nat.le_of_ble_eq_true rfl, Nat.le_of_ble_eq_true rfl⟩ rfl rfl hl.1 (Nat.le_of_ble_eq_true rfl) d_Law_law_193 ⟨by omega, by omega⟩ (fun H locs w hw hB => ?_)
    subst hw
    have hB : bd D classes s.heap.size s.heap.size (wB G Gm cI cL cQ o σ2 π ((m_Mo_place τ (xs (6 * n + 1)) (xs (6 * n + 2))).2) (vp_updL f 0 v.toInt64)) s H locs := hB
    refine lv_istore (lv' := [(6, .int ((m_Mo_place τ (xs (6 * n + 1)) (xs (6 * n + 2))).1)), (5, .int 0), (0, .ref b), (1, .ref (G 0 0)), (2, .ref (Gm 4 0)), (3, .ref o), (4, .int (nI (6 * n)))]) hx hb d_Law_law_196 hl (by decide) rfl (fun ls hl => ?_)
    refine lv_aload_n hx hb d_Law_law_198 rfl (lv_at hl 4 rfl) ?_
    refine kV hC hB _ lkM_o rfl (c_Mo_thrown ((m_Mo_place τ (xs (6 * n + 1)) (xs (6 * n + 2))).2) rfl) allw_ok mf_Mo_thrown kw_950 kw_951 kw_949 ⟨rfl, rfl, Nat.le_of_ble_eq_true rfl, Nat.le_of_ble_eq_true rfl⟩ rfl rfl hl.1 (Nat.le_of_ble_eq_true rfl) d_Law_law_199 ⟨by omega, by omega⟩ (roK fun H locs hB => ?_)
    refine lv_iload hx hb d_Law_law_202 (lv_at hl 1 rfl) ?_
    refine lv_icmp_eq (tgt := 209) hx hb d_Law_law_204 (by decide) (fun c_1 => ?_) (fun c_1 => absurd h0 c_1)
    refine lv_iload hx hb d_Law_law_209 (lv_at hl 1 rfl) ?_
    refine lv_if_ne (tgt := 226) hx hb d_Law_law_211 (by decide) (fun c_2 => absurd rfl c_2) (fun c_2 => ?_)
    refine lv_aload_n hx hb d_Law_law_214 rfl (lv_at hl 5 rfl) ?_
    refine lv_iconst (v := 0) hx hb d_Law_law_215 (by decide) ?_
    refine va_lald hx hb hC.2.2.2.2.2.2.2.1.1 hB.1 12 1 wB_out rfl vin0 d_Law_law_216 ?_
    refine lv_iload hx hb d_Law_law_217 (lv_at hl 0 rfl) ?_
    refine lv_i2l hx hb d_Law_law_219 rfl ?_
    refine W.lcmp hx hb d_Law_law_220 ?_
    refine lv_if_eq (tgt := 226) hx hb d_Law_law_221 (by decide) (fun c_4 => ?_) (fun c_4 => absurd (cmp0.mpr (congrArg Int32.toInt64 hv)) c_4)
    refine lv_goto (tgt := 1662) hx hb d_Law_law_226 (by decide) ?_
    exact hN _ π ((m_Mo_place τ (xs (6 * n + 1)) (xs (6 * n + 2))).2) _ _ _ _ _ ls hπ hRL (cst_up hc hns (by omega) (by omega)) (bd_perm hB wAB.symm) (lv_sub hl [2, 3, 4, 5, 6] rfl)
set_option maxHeartbeats 1000000 in
set_option maxRecDepth 100000 in
theorem lw_remove (hK : LC D cI cL cQ p l s m meth c b L xs) {n : Nat} (hn : 6 * n + 6 ≤ L) (hN : NX D G Gm cI cL cQ o p l e s m below meth c b n) {σ : SC} {π : PJ} {τ : SM} {f : Nat → Int64} {H : Heap} {locs : List Loc} {cells slots : Nat} {ls : Array Slot} (hπ : RJ π σ) (hR : RL n σ τ) (hc : cst n σ cells slots) (hB : bd D classes s.heap.size s.heap.size (wA G Gm cI cL cQ o σ π τ f) s H locs) (hl : lv_has ls 8 [(0, .ref b), (1, .ref (G 0 0)), (2, .ref (Gm 4 0)), (3, .ref o), (4, .int (nI (6 * n)))]) : WL p l e s m below meth c b H locs cells slots (F0 m 229 ls []) := by
  obtain ⟨hC, hSW, htl, hX, hbl, hL⟩ := id hK
  have hx := hC.1
  have hb := hC.2.1
  obtain ⟨hr1, hr2⟩ := cst_room hc hR (by omega)
  obtain ⟨ok1, ok2⟩ := op_remove (c := n) (by omega) hR (xs (6 * n + 1))
  rcases ok2 with ⟨hM, h0, hRL⟩ | ⟨v, σ2, hM, h0, hv, hRL, hns⟩
  · refine lv_aload_n hx hb d_Law_law_229 rfl (lv_at hl 1 rfl) ?_
    refine rdj hK hn hB.2.2 (lv_at hl 0 rfl) (lv_at hl 4 rfl) (j := 1) (by decide) d_Law_law_230 d_Law_law_231 d_Law_law_233 (by decide) d_Law_law_234 d_Law_law_235 ?_
    refine lv_aload_n hx hb d_Law_law_236 rfl (lv_at hl 3 rfl) ?_
    refine kSW hC hSW (Nat.le_refl _) hB (ht_remove htl σ π hπ o f (xs (6 * n + 1)) hM) allw_ok kw_506 kw_0 ⟨by decide, by decide⟩ (n := 3) (by decide +kernel) kw_505 kw_504 ⟨rfl, rfl, Nat.le_of_ble_eq_true rfl, Nat.le_of_ble_eq_true rfl⟩ rfl rfl hl.1 (Nat.le_of_ble_eq_true rfl) d_Law_law_237 ⟨by omega, by omega⟩ (fun H locs w hw hB => ?_)
    obtain ⟨π, hπ, rfl⟩ := hw
    have hB : bd D classes s.heap.size s.heap.size (wB G Gm cI cL cQ o σ π τ f) s H locs := bd_perm hB wAB
    refine lv_istore (lv' := [(5, .int 1), (0, .ref b), (1, .ref (G 0 0)), (2, .ref (Gm 4 0)), (3, .ref o), (4, .int (nI (6 * n)))]) hx hb d_Law_law_240 hl (by decide) rfl (fun ls hl => ?_)
    refine lv_aload_n hx hb d_Law_law_242 rfl (lv_at hl 3 rfl) ?_
    refine rdj hK hn hB.2.2 (lv_at hl 1 rfl) (lv_at hl 5 rfl) (j := 1) (by decide) d_Law_law_243 d_Law_law_244 d_Law_law_246 (by decide) d_Law_law_247 d_Law_law_248 ?_
    refine kV hC hB _ lkM_o rfl (c_Mo_remove τ (xs (6 * n + 1)) (eq_true ok1)) allw_ok mf_Mo_remove kw_1011 kw_1012 kw_1010 ⟨rfl, rfl, Nat.le_of_ble_eq_true rfl, Nat.le_of_ble_eq_true rfl⟩ rfl rfl hl.1 (Nat.le_of_ble_eq_true rfl) d_Law_law_249 ⟨by omega, by omega⟩ (fun H locs w hw hB => ?_)
    subst hw
    have hB : bd D classes s.heap.size s.heap.size (wB G Gm cI cL cQ o σ π ((m_Mo_remove τ (xs (6 * n + 1))).2) f) s H locs := hB
    refine lv_istore (lv' := [(6, .int (bi ((m_Mo_remove τ (xs (6 * n + 1))).1))), (5, .int 1), (0, .ref b), (1, .ref (G 0 0)), (2, .ref (Gm 4 0)), (3, .ref o), (4, .int (nI (6 * n)))]) hx hb d_Law_law_252 hl (by decide) rfl (fun ls hl => ?_)
    refine lv_aload_n hx hb d_Law_law_254 rfl (lv_at hl 4 rfl) ?_
    refine kV hC hB _ lkM_o rfl (c_Mo_thrown ((m_Mo_remove τ (xs (6 * n + 1))).2) rfl) allw_ok mf_Mo_thrown kw_950 kw_951 kw_949 ⟨rfl, rfl, Nat.le_of_ble_eq_true rfl, Nat.le_of_ble_eq_true rfl⟩ rfl rfl hl.1 (Nat.le_of_ble_eq_true rfl) d_Law_law_255 ⟨by omega, by omega⟩ (roK fun H locs hB => ?_)
    refine lv_iload hx hb d_Law_law_258 (lv_at hl 1 rfl) ?_
    refine lv_icmp_eq (tgt := 265) hx hb d_Law_law_260 (by decide) (fun c_1 => ?_) (fun c_1 => absurd h0 c_1)
    refine lv_iload hx hb d_Law_law_265 (lv_at hl 1 rfl) ?_
    refine lv_if_ne (tgt := 289) hx hb d_Law_law_267 (by decide) (fun c_2 => ?_) (fun c_2 => absurd c_2 (by decide))
    refine lv_goto (tgt := 1662) hx hb d_Law_law_289 (by decide) ?_
    exact hN _ π ((m_Mo_remove τ (xs (6 * n + 1))).2) _ _ _ _ _ ls hπ hRL (cst_up hc (Nat.le_succ _) (by omega) (by omega)) (bd_perm hB wAB.symm) (lv_sub hl [2, 3, 4, 5, 6] rfl)
  · rcases v with _ | _
    · refine lv_aload_n hx hb d_Law_law_229 rfl (lv_at hl 1 rfl) ?_
      refine rdj hK hn hB.2.2 (lv_at hl 0 rfl) (lv_at hl 4 rfl) (j := 1) (by decide) d_Law_law_230 d_Law_law_231 d_Law_law_233 (by decide) d_Law_law_234 d_Law_law_235 ?_
      refine lv_aload_n hx hb d_Law_law_236 rfl (lv_at hl 3 rfl) ?_
      refine kSW hC hSW (Nat.le_refl _) hB (h_remove σ π hπ o f (xs (6 * n + 1)) (false, σ2) hM) allw_ok kw_506 kw_0 ⟨by decide, by decide⟩ (n := 3) (by decide +kernel) kw_505 kw_504 ⟨rfl, rfl, Nat.le_of_ble_eq_true rfl, Nat.le_of_ble_eq_true rfl⟩ rfl rfl hl.1 (Nat.le_of_ble_eq_true rfl) d_Law_law_237 ⟨by omega, by omega⟩ (fun H locs w hw hB => ?_)
      obtain ⟨π, hπ, rfl⟩ := hw
      have hB : bd D classes s.heap.size s.heap.size (wB G Gm cI cL cQ o σ2 π τ (vp_updL f 0 (lb false))) s H locs := bd_perm hB wAB
      refine lv_istore (lv' := [(5, .int 0), (0, .ref b), (1, .ref (G 0 0)), (2, .ref (Gm 4 0)), (3, .ref o), (4, .int (nI (6 * n)))]) hx hb d_Law_law_240 hl (by decide) rfl (fun ls hl => ?_)
      refine lv_aload_n hx hb d_Law_law_242 rfl (lv_at hl 3 rfl) ?_
      refine rdj hK hn hB.2.2 (lv_at hl 1 rfl) (lv_at hl 5 rfl) (j := 1) (by decide) d_Law_law_243 d_Law_law_244 d_Law_law_246 (by decide) d_Law_law_247 d_Law_law_248 ?_
      refine kV hC hB _ lkM_o rfl (c_Mo_remove τ (xs (6 * n + 1)) (eq_true ok1)) allw_ok mf_Mo_remove kw_1011 kw_1012 kw_1010 ⟨rfl, rfl, Nat.le_of_ble_eq_true rfl, Nat.le_of_ble_eq_true rfl⟩ rfl rfl hl.1 (Nat.le_of_ble_eq_true rfl) d_Law_law_249 ⟨by omega, by omega⟩ (fun H locs w hw hB => ?_)
      subst hw
      have hB : bd D classes s.heap.size s.heap.size (wB G Gm cI cL cQ o σ2 π ((m_Mo_remove τ (xs (6 * n + 1))).2) (vp_updL f 0 (lb false))) s H locs := hB
      refine lv_istore (lv' := [(6, .int (bi ((m_Mo_remove τ (xs (6 * n + 1))).1))), (5, .int 0), (0, .ref b), (1, .ref (G 0 0)), (2, .ref (Gm 4 0)), (3, .ref o), (4, .int (nI (6 * n)))]) hx hb d_Law_law_252 hl (by decide) rfl (fun ls hl => ?_)
      refine lv_aload_n hx hb d_Law_law_254 rfl (lv_at hl 4 rfl) ?_
      refine kV hC hB _ lkM_o rfl (c_Mo_thrown ((m_Mo_remove τ (xs (6 * n + 1))).2) rfl) allw_ok mf_Mo_thrown kw_950 kw_951 kw_949 ⟨rfl, rfl, Nat.le_of_ble_eq_true rfl, Nat.le_of_ble_eq_true rfl⟩ rfl rfl hl.1 (Nat.le_of_ble_eq_true rfl) d_Law_law_255 ⟨by omega, by omega⟩ (roK fun H locs hB => ?_)
      refine lv_iload hx hb d_Law_law_258 (lv_at hl 1 rfl) ?_
      refine lv_icmp_eq (tgt := 265) hx hb d_Law_law_260 (by decide) (fun c_1 => ?_) (fun c_1 => absurd h0 c_1)
      refine lv_iload hx hb d_Law_law_265 (lv_at hl 1 rfl) ?_
      refine lv_if_ne (tgt := 289) hx hb d_Law_law_267 (by decide) (fun c_2 => absurd rfl c_2) (fun c_2 => ?_)
      refine lv_aload_n hx hb d_Law_law_270 rfl (lv_at hl 5 rfl) ?_
      refine lv_iconst (v := 0) hx hb d_Law_law_271 (by decide) ?_
      refine va_lald hx hb hC.2.2.2.2.2.2.2.1.1 hB.1 12 1 wB_out rfl vin0 d_Law_law_272 ?_
      refine lv_iload hx hb d_Law_law_273 (lv_at hl 0 rfl) ?_
      refine lv_if_eq (tgt := 282) hx hb d_Law_law_275 (by decide) (fun c_3 => ?_) (fun c_3 => absurd (by rw [← hv]; rfl) c_3)
      refine lv_lconst (v := 0) hx hb d_Law_law_282 (by decide) ?_
      refine W.lcmp hx hb d_Law_law_283 ?_
      refine lv_if_eq (tgt := 289) hx hb d_Law_law_284 (by decide) (fun c_4 => ?_) (fun c_4 => absurd (cmp0.mpr rfl) c_4)
      refine lv_goto (tgt := 1662) hx hb d_Law_law_289 (by decide) ?_
      exact hN _ π ((m_Mo_remove τ (xs (6 * n + 1))).2) _ _ _ _ _ ls hπ hRL (cst_up hc hns (by omega) (by omega)) (bd_perm hB wAB.symm) (lv_sub hl [2, 3, 4, 5, 6] rfl)
    · refine lv_aload_n hx hb d_Law_law_229 rfl (lv_at hl 1 rfl) ?_
      refine rdj hK hn hB.2.2 (lv_at hl 0 rfl) (lv_at hl 4 rfl) (j := 1) (by decide) d_Law_law_230 d_Law_law_231 d_Law_law_233 (by decide) d_Law_law_234 d_Law_law_235 ?_
      refine lv_aload_n hx hb d_Law_law_236 rfl (lv_at hl 3 rfl) ?_
      refine kSW hC hSW (Nat.le_refl _) hB (h_remove σ π hπ o f (xs (6 * n + 1)) (true, σ2) hM) allw_ok kw_506 kw_0 ⟨by decide, by decide⟩ (n := 3) (by decide +kernel) kw_505 kw_504 ⟨rfl, rfl, Nat.le_of_ble_eq_true rfl, Nat.le_of_ble_eq_true rfl⟩ rfl rfl hl.1 (Nat.le_of_ble_eq_true rfl) d_Law_law_237 ⟨by omega, by omega⟩ (fun H locs w hw hB => ?_)
      obtain ⟨π, hπ, rfl⟩ := hw
      have hB : bd D classes s.heap.size s.heap.size (wB G Gm cI cL cQ o σ2 π τ (vp_updL f 0 (lb true))) s H locs := bd_perm hB wAB
      refine lv_istore (lv' := [(5, .int 0), (0, .ref b), (1, .ref (G 0 0)), (2, .ref (Gm 4 0)), (3, .ref o), (4, .int (nI (6 * n)))]) hx hb d_Law_law_240 hl (by decide) rfl (fun ls hl => ?_)
      refine lv_aload_n hx hb d_Law_law_242 rfl (lv_at hl 3 rfl) ?_
      refine rdj hK hn hB.2.2 (lv_at hl 1 rfl) (lv_at hl 5 rfl) (j := 1) (by decide) d_Law_law_243 d_Law_law_244 d_Law_law_246 (by decide) d_Law_law_247 d_Law_law_248 ?_
      refine kV hC hB _ lkM_o rfl (c_Mo_remove τ (xs (6 * n + 1)) (eq_true ok1)) allw_ok mf_Mo_remove kw_1011 kw_1012 kw_1010 ⟨rfl, rfl, Nat.le_of_ble_eq_true rfl, Nat.le_of_ble_eq_true rfl⟩ rfl rfl hl.1 (Nat.le_of_ble_eq_true rfl) d_Law_law_249 ⟨by omega, by omega⟩ (fun H locs w hw hB => ?_)
      subst hw
      have hB : bd D classes s.heap.size s.heap.size (wB G Gm cI cL cQ o σ2 π ((m_Mo_remove τ (xs (6 * n + 1))).2) (vp_updL f 0 (lb true))) s H locs := hB
      refine lv_istore (lv' := [(6, .int (bi ((m_Mo_remove τ (xs (6 * n + 1))).1))), (5, .int 0), (0, .ref b), (1, .ref (G 0 0)), (2, .ref (Gm 4 0)), (3, .ref o), (4, .int (nI (6 * n)))]) hx hb d_Law_law_252 hl (by decide) rfl (fun ls hl => ?_)
      refine lv_aload_n hx hb d_Law_law_254 rfl (lv_at hl 4 rfl) ?_
      refine kV hC hB _ lkM_o rfl (c_Mo_thrown ((m_Mo_remove τ (xs (6 * n + 1))).2) rfl) allw_ok mf_Mo_thrown kw_950 kw_951 kw_949 ⟨rfl, rfl, Nat.le_of_ble_eq_true rfl, Nat.le_of_ble_eq_true rfl⟩ rfl rfl hl.1 (Nat.le_of_ble_eq_true rfl) d_Law_law_255 ⟨by omega, by omega⟩ (roK fun H locs hB => ?_)
      refine lv_iload hx hb d_Law_law_258 (lv_at hl 1 rfl) ?_
      refine lv_icmp_eq (tgt := 265) hx hb d_Law_law_260 (by decide) (fun c_1 => ?_) (fun c_1 => absurd h0 c_1)
      refine lv_iload hx hb d_Law_law_265 (lv_at hl 1 rfl) ?_
      refine lv_if_ne (tgt := 289) hx hb d_Law_law_267 (by decide) (fun c_2 => absurd rfl c_2) (fun c_2 => ?_)
      refine lv_aload_n hx hb d_Law_law_270 rfl (lv_at hl 5 rfl) ?_
      refine lv_iconst (v := 0) hx hb d_Law_law_271 (by decide) ?_
      refine va_lald hx hb hC.2.2.2.2.2.2.2.1.1 hB.1 12 1 wB_out rfl vin0 d_Law_law_272 ?_
      refine lv_iload hx hb d_Law_law_273 (lv_at hl 0 rfl) ?_
      refine lv_if_eq (tgt := 282) hx hb d_Law_law_275 (by decide) (fun c_3 => absurd c_3 (by rw [← hv]; decide)) (fun c_3 => ?_)
      refine lv_lconst (v := 1) hx hb d_Law_law_278 (by decide) ?_
      refine lv_goto (tgt := 283) hx hb d_Law_law_279 (by decide) ?_
      refine W.lcmp hx hb d_Law_law_283 ?_
      refine lv_if_eq (tgt := 289) hx hb d_Law_law_284 (by decide) (fun c_4 => ?_) (fun c_4 => absurd (cmp0.mpr rfl) c_4)
      refine lv_goto (tgt := 1662) hx hb d_Law_law_289 (by decide) ?_
      exact hN _ π ((m_Mo_remove τ (xs (6 * n + 1))).2) _ _ _ _ _ ls hπ hRL (cst_up hc hns (by omega) (by omega)) (bd_perm hB wAB.symm) (lv_sub hl [2, 3, 4, 5, 6] rfl)
set_option maxHeartbeats 1000000 in
set_option maxRecDepth 100000 in
theorem lw_move (hK : LC D cI cL cQ p l s m meth c b L xs) {n : Nat} (hn : 6 * n + 6 ≤ L) (hN : NX D G Gm cI cL cQ o p l e s m below meth c b n) {σ : SC} {π : PJ} {τ : SM} {f : Nat → Int64} {H : Heap} {locs : List Loc} {cells slots : Nat} {ls : Array Slot} (hπ : RJ π σ) (hR : RL n σ τ) (hc : cst n σ cells slots) (hB : bd D classes s.heap.size s.heap.size (wA G Gm cI cL cQ o σ π τ f) s H locs) (hl : lv_has ls 8 [(0, .ref b), (1, .ref (G 0 0)), (2, .ref (Gm 4 0)), (3, .ref o), (4, .int (nI (6 * n)))]) : WL p l e s m below meth c b H locs cells slots (F0 m 292 ls []) := by
  obtain ⟨hC, hSW, htl, hX, hbl, hL⟩ := id hK
  have hx := hC.1
  have hb := hC.2.1
  obtain ⟨hr1, hr2⟩ := cst_room hc hR (by omega)
  obtain ⟨ok1, ok2⟩ := op_move (c := n) (by omega) hR (xs (6 * n + 1)) (xs (6 * n + 2))
  rcases ok2 with ⟨hM, h0, hRL⟩ | ⟨v, σ2, hM, h0, hv, hRL, hns⟩
  · refine lv_aload_n hx hb d_Law_law_292 rfl (lv_at hl 1 rfl) ?_
    refine rdj hK hn hB.2.2 (lv_at hl 0 rfl) (lv_at hl 4 rfl) (j := 1) (by decide) d_Law_law_293 d_Law_law_294 d_Law_law_296 (by decide) d_Law_law_297 d_Law_law_298 ?_
    refine rdj hK hn hB.2.2 (lv_at hl 0 rfl) (lv_at hl 4 rfl) (j := 2) (by decide) d_Law_law_299 d_Law_law_300 d_Law_law_302 (by decide) d_Law_law_303 d_Law_law_304 ?_
    refine lv_aload_n hx hb d_Law_law_305 rfl (lv_at hl 3 rfl) ?_
    refine kSW hC hSW (Nat.le_refl _) hB (ht_move htl σ π hπ o f (xs (6 * n + 1)) (xs (6 * n + 2)) hM) allw_ok kw_528 kw_0 ⟨by decide, by decide⟩ (n := 4) (by decide +kernel) kw_527 kw_526 ⟨rfl, rfl, Nat.le_of_ble_eq_true rfl, Nat.le_of_ble_eq_true rfl⟩ rfl rfl hl.1 (Nat.le_of_ble_eq_true rfl) d_Law_law_306 ⟨by omega, by omega⟩ (fun H locs w hw hB => ?_)
    obtain ⟨π, hπ, rfl⟩ := hw
    have hB : bd D classes s.heap.size s.heap.size (wB G Gm cI cL cQ o σ π τ f) s H locs := bd_perm hB wAB
    refine lv_istore (lv' := [(5, .int 1), (0, .ref b), (1, .ref (G 0 0)), (2, .ref (Gm 4 0)), (3, .ref o), (4, .int (nI (6 * n)))]) hx hb d_Law_law_309 hl (by decide) rfl (fun ls hl => ?_)
    refine lv_aload_n hx hb d_Law_law_311 rfl (lv_at hl 3 rfl) ?_
    refine rdj hK hn hB.2.2 (lv_at hl 1 rfl) (lv_at hl 5 rfl) (j := 1) (by decide) d_Law_law_312 d_Law_law_313 d_Law_law_315 (by decide) d_Law_law_316 d_Law_law_317 ?_
    refine rdj hK hn hB.2.2 (lv_at hl 1 rfl) (lv_at hl 5 rfl) (j := 2) (by decide) d_Law_law_318 d_Law_law_319 d_Law_law_321 (by decide) d_Law_law_322 d_Law_law_323 ?_
    refine kV hC hB _ lkM_o rfl (c_Mo_move τ (xs (6 * n + 1)) (xs (6 * n + 2)) (eq_true ok1)) allw_ok mf_Mo_move kw_1019 kw_1020 kw_1018 ⟨rfl, rfl, Nat.le_of_ble_eq_true rfl, Nat.le_of_ble_eq_true rfl⟩ rfl rfl hl.1 (Nat.le_of_ble_eq_true rfl) d_Law_law_324 ⟨by omega, by omega⟩ (fun H locs w hw hB => ?_)
    subst hw
    have hB : bd D classes s.heap.size s.heap.size (wB G Gm cI cL cQ o σ π ((m_Mo_move τ (xs (6 * n + 1)) (xs (6 * n + 2))).2) f) s H locs := hB
    refine lv_istore (lv' := [(6, .int (bi ((m_Mo_move τ (xs (6 * n + 1)) (xs (6 * n + 2))).1))), (5, .int 1), (0, .ref b), (1, .ref (G 0 0)), (2, .ref (Gm 4 0)), (3, .ref o), (4, .int (nI (6 * n)))]) hx hb d_Law_law_327 hl (by decide) rfl (fun ls hl => ?_)
    refine lv_aload_n hx hb d_Law_law_329 rfl (lv_at hl 4 rfl) ?_
    refine kV hC hB _ lkM_o rfl (c_Mo_thrown ((m_Mo_move τ (xs (6 * n + 1)) (xs (6 * n + 2))).2) rfl) allw_ok mf_Mo_thrown kw_950 kw_951 kw_949 ⟨rfl, rfl, Nat.le_of_ble_eq_true rfl, Nat.le_of_ble_eq_true rfl⟩ rfl rfl hl.1 (Nat.le_of_ble_eq_true rfl) d_Law_law_330 ⟨by omega, by omega⟩ (roK fun H locs hB => ?_)
    refine lv_iload hx hb d_Law_law_333 (lv_at hl 1 rfl) ?_
    refine lv_icmp_eq (tgt := 340) hx hb d_Law_law_335 (by decide) (fun c_1 => ?_) (fun c_1 => absurd h0 c_1)
    refine lv_iload hx hb d_Law_law_340 (lv_at hl 1 rfl) ?_
    refine lv_if_ne (tgt := 364) hx hb d_Law_law_342 (by decide) (fun c_2 => ?_) (fun c_2 => absurd c_2 (by decide))
    refine lv_goto (tgt := 1662) hx hb d_Law_law_364 (by decide) ?_
    exact hN _ π ((m_Mo_move τ (xs (6 * n + 1)) (xs (6 * n + 2))).2) _ _ _ _ _ ls hπ hRL (cst_up hc (Nat.le_succ _) (by omega) (by omega)) (bd_perm hB wAB.symm) (lv_sub hl [2, 3, 4, 5, 6] rfl)
  · rcases v with _ | _
    · refine lv_aload_n hx hb d_Law_law_292 rfl (lv_at hl 1 rfl) ?_
      refine rdj hK hn hB.2.2 (lv_at hl 0 rfl) (lv_at hl 4 rfl) (j := 1) (by decide) d_Law_law_293 d_Law_law_294 d_Law_law_296 (by decide) d_Law_law_297 d_Law_law_298 ?_
      refine rdj hK hn hB.2.2 (lv_at hl 0 rfl) (lv_at hl 4 rfl) (j := 2) (by decide) d_Law_law_299 d_Law_law_300 d_Law_law_302 (by decide) d_Law_law_303 d_Law_law_304 ?_
      refine lv_aload_n hx hb d_Law_law_305 rfl (lv_at hl 3 rfl) ?_
      refine kSW hC hSW (Nat.le_refl _) hB (h_move σ π hπ o f (xs (6 * n + 1)) (xs (6 * n + 2)) (false, σ2) hM) allw_ok kw_528 kw_0 ⟨by decide, by decide⟩ (n := 4) (by decide +kernel) kw_527 kw_526 ⟨rfl, rfl, Nat.le_of_ble_eq_true rfl, Nat.le_of_ble_eq_true rfl⟩ rfl rfl hl.1 (Nat.le_of_ble_eq_true rfl) d_Law_law_306 ⟨by omega, by omega⟩ (fun H locs w hw hB => ?_)
      obtain ⟨π, hπ, rfl⟩ := hw
      have hB : bd D classes s.heap.size s.heap.size (wB G Gm cI cL cQ o σ2 π τ (vp_updL f 0 (lb false))) s H locs := bd_perm hB wAB
      refine lv_istore (lv' := [(5, .int 0), (0, .ref b), (1, .ref (G 0 0)), (2, .ref (Gm 4 0)), (3, .ref o), (4, .int (nI (6 * n)))]) hx hb d_Law_law_309 hl (by decide) rfl (fun ls hl => ?_)
      refine lv_aload_n hx hb d_Law_law_311 rfl (lv_at hl 3 rfl) ?_
      refine rdj hK hn hB.2.2 (lv_at hl 1 rfl) (lv_at hl 5 rfl) (j := 1) (by decide) d_Law_law_312 d_Law_law_313 d_Law_law_315 (by decide) d_Law_law_316 d_Law_law_317 ?_
      refine rdj hK hn hB.2.2 (lv_at hl 1 rfl) (lv_at hl 5 rfl) (j := 2) (by decide) d_Law_law_318 d_Law_law_319 d_Law_law_321 (by decide) d_Law_law_322 d_Law_law_323 ?_
      refine kV hC hB _ lkM_o rfl (c_Mo_move τ (xs (6 * n + 1)) (xs (6 * n + 2)) (eq_true ok1)) allw_ok mf_Mo_move kw_1019 kw_1020 kw_1018 ⟨rfl, rfl, Nat.le_of_ble_eq_true rfl, Nat.le_of_ble_eq_true rfl⟩ rfl rfl hl.1 (Nat.le_of_ble_eq_true rfl) d_Law_law_324 ⟨by omega, by omega⟩ (fun H locs w hw hB => ?_)
      subst hw
      have hB : bd D classes s.heap.size s.heap.size (wB G Gm cI cL cQ o σ2 π ((m_Mo_move τ (xs (6 * n + 1)) (xs (6 * n + 2))).2) (vp_updL f 0 (lb false))) s H locs := hB
      refine lv_istore (lv' := [(6, .int (bi ((m_Mo_move τ (xs (6 * n + 1)) (xs (6 * n + 2))).1))), (5, .int 0), (0, .ref b), (1, .ref (G 0 0)), (2, .ref (Gm 4 0)), (3, .ref o), (4, .int (nI (6 * n)))]) hx hb d_Law_law_327 hl (by decide) rfl (fun ls hl => ?_)
      refine lv_aload_n hx hb d_Law_law_329 rfl (lv_at hl 4 rfl) ?_
      refine kV hC hB _ lkM_o rfl (c_Mo_thrown ((m_Mo_move τ (xs (6 * n + 1)) (xs (6 * n + 2))).2) rfl) allw_ok mf_Mo_thrown kw_950 kw_951 kw_949 ⟨rfl, rfl, Nat.le_of_ble_eq_true rfl, Nat.le_of_ble_eq_true rfl⟩ rfl rfl hl.1 (Nat.le_of_ble_eq_true rfl) d_Law_law_330 ⟨by omega, by omega⟩ (roK fun H locs hB => ?_)
      refine lv_iload hx hb d_Law_law_333 (lv_at hl 1 rfl) ?_
      refine lv_icmp_eq (tgt := 340) hx hb d_Law_law_335 (by decide) (fun c_1 => ?_) (fun c_1 => absurd h0 c_1)
      refine lv_iload hx hb d_Law_law_340 (lv_at hl 1 rfl) ?_
      refine lv_if_ne (tgt := 364) hx hb d_Law_law_342 (by decide) (fun c_2 => absurd rfl c_2) (fun c_2 => ?_)
      refine lv_aload_n hx hb d_Law_law_345 rfl (lv_at hl 5 rfl) ?_
      refine lv_iconst (v := 0) hx hb d_Law_law_346 (by decide) ?_
      refine va_lald hx hb hC.2.2.2.2.2.2.2.1.1 hB.1 12 1 wB_out rfl vin0 d_Law_law_347 ?_
      refine lv_iload hx hb d_Law_law_348 (lv_at hl 0 rfl) ?_
      refine lv_if_eq (tgt := 357) hx hb d_Law_law_350 (by decide) (fun c_3 => ?_) (fun c_3 => absurd (by rw [← hv]; rfl) c_3)
      refine lv_lconst (v := 0) hx hb d_Law_law_357 (by decide) ?_
      refine W.lcmp hx hb d_Law_law_358 ?_
      refine lv_if_eq (tgt := 364) hx hb d_Law_law_359 (by decide) (fun c_4 => ?_) (fun c_4 => absurd (cmp0.mpr rfl) c_4)
      refine lv_goto (tgt := 1662) hx hb d_Law_law_364 (by decide) ?_
      exact hN _ π ((m_Mo_move τ (xs (6 * n + 1)) (xs (6 * n + 2))).2) _ _ _ _ _ ls hπ hRL (cst_up hc hns (by omega) (by omega)) (bd_perm hB wAB.symm) (lv_sub hl [2, 3, 4, 5, 6] rfl)
    · refine lv_aload_n hx hb d_Law_law_292 rfl (lv_at hl 1 rfl) ?_
      refine rdj hK hn hB.2.2 (lv_at hl 0 rfl) (lv_at hl 4 rfl) (j := 1) (by decide) d_Law_law_293 d_Law_law_294 d_Law_law_296 (by decide) d_Law_law_297 d_Law_law_298 ?_
      refine rdj hK hn hB.2.2 (lv_at hl 0 rfl) (lv_at hl 4 rfl) (j := 2) (by decide) d_Law_law_299 d_Law_law_300 d_Law_law_302 (by decide) d_Law_law_303 d_Law_law_304 ?_
      refine lv_aload_n hx hb d_Law_law_305 rfl (lv_at hl 3 rfl) ?_
      refine kSW hC hSW (Nat.le_refl _) hB (h_move σ π hπ o f (xs (6 * n + 1)) (xs (6 * n + 2)) (true, σ2) hM) allw_ok kw_528 kw_0 ⟨by decide, by decide⟩ (n := 4) (by decide +kernel) kw_527 kw_526 ⟨rfl, rfl, Nat.le_of_ble_eq_true rfl, Nat.le_of_ble_eq_true rfl⟩ rfl rfl hl.1 (Nat.le_of_ble_eq_true rfl) d_Law_law_306 ⟨by omega, by omega⟩ (fun H locs w hw hB => ?_)
      obtain ⟨π, hπ, rfl⟩ := hw
      have hB : bd D classes s.heap.size s.heap.size (wB G Gm cI cL cQ o σ2 π τ (vp_updL f 0 (lb true))) s H locs := bd_perm hB wAB
      refine lv_istore (lv' := [(5, .int 0), (0, .ref b), (1, .ref (G 0 0)), (2, .ref (Gm 4 0)), (3, .ref o), (4, .int (nI (6 * n)))]) hx hb d_Law_law_309 hl (by decide) rfl (fun ls hl => ?_)
      refine lv_aload_n hx hb d_Law_law_311 rfl (lv_at hl 3 rfl) ?_
      refine rdj hK hn hB.2.2 (lv_at hl 1 rfl) (lv_at hl 5 rfl) (j := 1) (by decide) d_Law_law_312 d_Law_law_313 d_Law_law_315 (by decide) d_Law_law_316 d_Law_law_317 ?_
      refine rdj hK hn hB.2.2 (lv_at hl 1 rfl) (lv_at hl 5 rfl) (j := 2) (by decide) d_Law_law_318 d_Law_law_319 d_Law_law_321 (by decide) d_Law_law_322 d_Law_law_323 ?_
      refine kV hC hB _ lkM_o rfl (c_Mo_move τ (xs (6 * n + 1)) (xs (6 * n + 2)) (eq_true ok1)) allw_ok mf_Mo_move kw_1019 kw_1020 kw_1018 ⟨rfl, rfl, Nat.le_of_ble_eq_true rfl, Nat.le_of_ble_eq_true rfl⟩ rfl rfl hl.1 (Nat.le_of_ble_eq_true rfl) d_Law_law_324 ⟨by omega, by omega⟩ (fun H locs w hw hB => ?_)
      subst hw
      have hB : bd D classes s.heap.size s.heap.size (wB G Gm cI cL cQ o σ2 π ((m_Mo_move τ (xs (6 * n + 1)) (xs (6 * n + 2))).2) (vp_updL f 0 (lb true))) s H locs := hB
      refine lv_istore (lv' := [(6, .int (bi ((m_Mo_move τ (xs (6 * n + 1)) (xs (6 * n + 2))).1))), (5, .int 0), (0, .ref b), (1, .ref (G 0 0)), (2, .ref (Gm 4 0)), (3, .ref o), (4, .int (nI (6 * n)))]) hx hb d_Law_law_327 hl (by decide) rfl (fun ls hl => ?_)
      refine lv_aload_n hx hb d_Law_law_329 rfl (lv_at hl 4 rfl) ?_
      refine kV hC hB _ lkM_o rfl (c_Mo_thrown ((m_Mo_move τ (xs (6 * n + 1)) (xs (6 * n + 2))).2) rfl) allw_ok mf_Mo_thrown kw_950 kw_951 kw_949 ⟨rfl, rfl, Nat.le_of_ble_eq_true rfl, Nat.le_of_ble_eq_true rfl⟩ rfl rfl hl.1 (Nat.le_of_ble_eq_true rfl) d_Law_law_330 ⟨by omega, by omega⟩ (roK fun H locs hB => ?_)
      refine lv_iload hx hb d_Law_law_333 (lv_at hl 1 rfl) ?_
      refine lv_icmp_eq (tgt := 340) hx hb d_Law_law_335 (by decide) (fun c_1 => ?_) (fun c_1 => absurd h0 c_1)
      refine lv_iload hx hb d_Law_law_340 (lv_at hl 1 rfl) ?_
      refine lv_if_ne (tgt := 364) hx hb d_Law_law_342 (by decide) (fun c_2 => absurd rfl c_2) (fun c_2 => ?_)
      refine lv_aload_n hx hb d_Law_law_345 rfl (lv_at hl 5 rfl) ?_
      refine lv_iconst (v := 0) hx hb d_Law_law_346 (by decide) ?_
      refine va_lald hx hb hC.2.2.2.2.2.2.2.1.1 hB.1 12 1 wB_out rfl vin0 d_Law_law_347 ?_
      refine lv_iload hx hb d_Law_law_348 (lv_at hl 0 rfl) ?_
      refine lv_if_eq (tgt := 357) hx hb d_Law_law_350 (by decide) (fun c_3 => absurd c_3 (by rw [← hv]; decide)) (fun c_3 => ?_)
      refine lv_lconst (v := 1) hx hb d_Law_law_353 (by decide) ?_
      refine lv_goto (tgt := 358) hx hb d_Law_law_354 (by decide) ?_
      refine W.lcmp hx hb d_Law_law_358 ?_
      refine lv_if_eq (tgt := 364) hx hb d_Law_law_359 (by decide) (fun c_4 => ?_) (fun c_4 => absurd (cmp0.mpr rfl) c_4)
      refine lv_goto (tgt := 1662) hx hb d_Law_law_364 (by decide) ?_
      exact hN _ π ((m_Mo_move τ (xs (6 * n + 1)) (xs (6 * n + 2))).2) _ _ _ _ _ ls hπ hRL (cst_up hc hns (by omega) (by omega)) (bd_perm hB wAB.symm) (lv_sub hl [2, 3, 4, 5, 6] rfl)
set_option maxHeartbeats 1000000 in
set_option maxRecDepth 100000 in
theorem lw_told (hK : LC D cI cL cQ p l s m meth c b L xs) {n : Nat} (hn : 6 * n + 6 ≤ L) (hN : NX D G Gm cI cL cQ o p l e s m below meth c b n) {σ : SC} {π : PJ} {τ : SM} {f : Nat → Int64} {H : Heap} {locs : List Loc} {cells slots : Nat} {ls : Array Slot} (hπ : RJ π σ) (hR : RL n σ τ) (hc : cst n σ cells slots) (hB : bd D classes s.heap.size s.heap.size (wA G Gm cI cL cQ o σ π τ f) s H locs) (hl : lv_has ls 8 [(0, .ref b), (1, .ref (G 0 0)), (2, .ref (Gm 4 0)), (3, .ref o), (4, .int (nI (6 * n)))]) : WL p l e s m below meth c b H locs cells slots (F0 m 367 ls []) := by
  obtain ⟨hC, hSW, htl, hX, hbl, hL⟩ := id hK
  have hx := hC.1
  have hb := hC.2.1
  obtain ⟨hr1, hr2⟩ := cst_room hc hR (by omega)
  obtain ⟨ok1, ok2, ok3, ok4⟩ := op_told (c := n) (by omega) hR (xs (6 * n + 1))
  refine lv_aload_n hx hb d_Law_law_367 rfl (lv_at hl 1 rfl) ?_
  refine rdj hK hn hB.2.2 (lv_at hl 0 rfl) (lv_at hl 4 rfl) (j := 1) (by decide) d_Law_law_368 d_Law_law_369 d_Law_law_371 (by decide) d_Law_law_372 d_Law_law_373 ?_
  refine kV hC hB _ lkC_ST rfl (c_ST_told σ π (xs (6 * n + 1))) allw_ok mf_ST_told kw_348 kw_349 kw_347 ⟨rfl, rfl, Nat.le_of_ble_eq_true rfl, Nat.le_of_ble_eq_true rfl⟩ rfl rfl hl.1 (Nat.le_of_ble_eq_true rfl) d_Law_law_374 ⟨by omega, by omega⟩ (fun H locs w hw hB => ?_)
  subst hw
  have hB : bd D classes s.heap.size s.heap.size (wB G Gm cI cL cQ o σ π τ f) s H locs := bd_perm hB wAB
  refine lv_aload_n hx hb d_Law_law_377 rfl (lv_at hl 2 rfl) ?_
  refine rdj hK hn hB.2.2 (lv_at hl 0 rfl) (lv_at hl 4 rfl) (j := 1) (by decide) d_Law_law_378 d_Law_law_379 d_Law_law_381 (by decide) d_Law_law_382 d_Law_law_383 ?_
  refine kV hC hB _ lkM_o rfl (c_Mo_told τ (xs (6 * n + 1)) (eq_true ok1)) allw_ok mf_Mo_told kw_1027 kw_1028 kw_1026 ⟨rfl, rfl, Nat.le_of_ble_eq_true rfl, Nat.le_of_ble_eq_true rfl⟩ rfl rfl hl.1 (Nat.le_of_ble_eq_true rfl) d_Law_law_384 ⟨by omega, by omega⟩ (fun H locs w hw hB => ?_)
  subst hw
  refine lv_icmp_eq (tgt := 1662) hx hb d_Law_law_387 (by decide) (fun c_1 => ?_) (fun c_1 => absurd (ok3) c_1)
  exact hN _ π ((m_Mo_told τ (xs (6 * n + 1))).2) f _ _ _ _ ls hπ ok4 (cst_up hc (Nat.le_succ _) (by omega) (by omega)) (bd_perm hB wAB.symm) hl
set_option maxHeartbeats 1000000 in
set_option maxRecDepth 100000 in
theorem lw_port (hK : LC D cI cL cQ p l s m meth c b L xs) {n : Nat} (hn : 6 * n + 6 ≤ L) (hN : NX D G Gm cI cL cQ o p l e s m below meth c b n) {σ : SC} {π : PJ} {τ : SM} {f : Nat → Int64} {H : Heap} {locs : List Loc} {cells slots : Nat} {ls : Array Slot} (hπ : RJ π σ) (hR : RL n σ τ) (hc : cst n σ cells slots) (hB : bd D classes s.heap.size s.heap.size (wA G Gm cI cL cQ o σ π τ f) s H locs) (hl : lv_has ls 8 [(0, .ref b), (1, .ref (G 0 0)), (2, .ref (Gm 4 0)), (3, .ref o), (4, .int (nI (6 * n)))]) : WL p l e s m below meth c b H locs cells slots (F0 m 392 ls []) := by
  obtain ⟨hC, hSW, htl, hX, hbl, hL⟩ := id hK
  have hx := hC.1
  have hb := hC.2.1
  obtain ⟨hr1, hr2⟩ := cst_room hc hR (by omega)
  obtain ⟨ok1, ok2⟩ := op_port (c := n) (by omega) hR (xs (6 * n + 1)) (xs (6 * n + 2))
  rcases ok2 with ⟨hM, h0, hRL⟩ | ⟨v, σ2, hM, h0, hv, hRL, hns⟩
  · refine lv_aload_n hx hb d_Law_law_392 rfl (lv_at hl 1 rfl) ?_
    refine rdj hK hn hB.2.2 (lv_at hl 0 rfl) (lv_at hl 4 rfl) (j := 1) (by decide) d_Law_law_393 d_Law_law_394 d_Law_law_396 (by decide) d_Law_law_397 d_Law_law_398 ?_
    refine rdj hK hn hB.2.2 (lv_at hl 0 rfl) (lv_at hl 4 rfl) (j := 2) (by decide) d_Law_law_399 d_Law_law_400 d_Law_law_402 (by decide) d_Law_law_403 d_Law_law_404 ?_
    refine lv_aload_n hx hb d_Law_law_405 rfl (lv_at hl 3 rfl) ?_
    refine kSW hC hSW (Nat.le_refl _) hB (ht_port htl σ π hπ o f (xs (6 * n + 1)) (xs (6 * n + 2)) hM) allw_ok kw_553 kw_0 ⟨by decide, by decide⟩ (n := 4) (by decide +kernel) kw_552 kw_551 ⟨rfl, rfl, Nat.le_of_ble_eq_true rfl, Nat.le_of_ble_eq_true rfl⟩ rfl rfl hl.1 (Nat.le_of_ble_eq_true rfl) d_Law_law_406 ⟨by omega, by omega⟩ (fun H locs w hw hB => ?_)
    obtain ⟨π, hπ, rfl⟩ := hw
    have hB : bd D classes s.heap.size s.heap.size (wB G Gm cI cL cQ o σ π τ f) s H locs := bd_perm hB wAB
    refine lv_istore (lv' := [(5, .int 1), (0, .ref b), (1, .ref (G 0 0)), (2, .ref (Gm 4 0)), (3, .ref o), (4, .int (nI (6 * n)))]) hx hb d_Law_law_409 hl (by decide) rfl (fun ls hl => ?_)
    refine lv_aload_n hx hb d_Law_law_411 rfl (lv_at hl 3 rfl) ?_
    refine rdj hK hn hB.2.2 (lv_at hl 1 rfl) (lv_at hl 5 rfl) (j := 1) (by decide) d_Law_law_412 d_Law_law_413 d_Law_law_415 (by decide) d_Law_law_416 d_Law_law_417 ?_
    refine rdj hK hn hB.2.2 (lv_at hl 1 rfl) (lv_at hl 5 rfl) (j := 2) (by decide) d_Law_law_418 d_Law_law_419 d_Law_law_421 (by decide) d_Law_law_422 d_Law_law_423 ?_
    refine kV hC hB _ lkM_o rfl (c_Mo_port τ (xs (6 * n + 1)) (xs (6 * n + 2)) (eq_true ok1)) allw_ok mf_Mo_port kw_1031 kw_1032 kw_1030 ⟨rfl, rfl, Nat.le_of_ble_eq_true rfl, Nat.le_of_ble_eq_true rfl⟩ rfl rfl hl.1 (Nat.le_of_ble_eq_true rfl) d_Law_law_424 ⟨by omega, by omega⟩ (fun H locs w hw hB => ?_)
    subst hw
    have hB : bd D classes s.heap.size s.heap.size (wB G Gm cI cL cQ o σ π ((m_Mo_port τ (xs (6 * n + 1)) (xs (6 * n + 2))).2) f) s H locs := hB
    refine lv_istore (lv' := [(6, .int (bi ((m_Mo_port τ (xs (6 * n + 1)) (xs (6 * n + 2))).1))), (5, .int 1), (0, .ref b), (1, .ref (G 0 0)), (2, .ref (Gm 4 0)), (3, .ref o), (4, .int (nI (6 * n)))]) hx hb d_Law_law_427 hl (by decide) rfl (fun ls hl => ?_)
    refine lv_aload_n hx hb d_Law_law_429 rfl (lv_at hl 4 rfl) ?_
    refine kV hC hB _ lkM_o rfl (c_Mo_thrown ((m_Mo_port τ (xs (6 * n + 1)) (xs (6 * n + 2))).2) rfl) allw_ok mf_Mo_thrown kw_950 kw_951 kw_949 ⟨rfl, rfl, Nat.le_of_ble_eq_true rfl, Nat.le_of_ble_eq_true rfl⟩ rfl rfl hl.1 (Nat.le_of_ble_eq_true rfl) d_Law_law_430 ⟨by omega, by omega⟩ (roK fun H locs hB => ?_)
    refine lv_iload hx hb d_Law_law_433 (lv_at hl 1 rfl) ?_
    refine lv_icmp_eq (tgt := 440) hx hb d_Law_law_435 (by decide) (fun c_1 => ?_) (fun c_1 => absurd h0 c_1)
    refine lv_iload hx hb d_Law_law_440 (lv_at hl 1 rfl) ?_
    refine lv_if_ne (tgt := 464) hx hb d_Law_law_442 (by decide) (fun c_2 => ?_) (fun c_2 => absurd c_2 (by decide))
    refine lv_goto (tgt := 1662) hx hb d_Law_law_464 (by decide) ?_
    exact hN _ π ((m_Mo_port τ (xs (6 * n + 1)) (xs (6 * n + 2))).2) _ _ _ _ _ ls hπ hRL (cst_up hc (Nat.le_succ _) (by omega) (by omega)) (bd_perm hB wAB.symm) (lv_sub hl [2, 3, 4, 5, 6] rfl)
  · rcases v with _ | _
    · refine lv_aload_n hx hb d_Law_law_392 rfl (lv_at hl 1 rfl) ?_
      refine rdj hK hn hB.2.2 (lv_at hl 0 rfl) (lv_at hl 4 rfl) (j := 1) (by decide) d_Law_law_393 d_Law_law_394 d_Law_law_396 (by decide) d_Law_law_397 d_Law_law_398 ?_
      refine rdj hK hn hB.2.2 (lv_at hl 0 rfl) (lv_at hl 4 rfl) (j := 2) (by decide) d_Law_law_399 d_Law_law_400 d_Law_law_402 (by decide) d_Law_law_403 d_Law_law_404 ?_
      refine lv_aload_n hx hb d_Law_law_405 rfl (lv_at hl 3 rfl) ?_
      refine kSW hC hSW (Nat.le_refl _) hB (h_port σ π hπ o f (xs (6 * n + 1)) (xs (6 * n + 2)) (false, σ2) hM) allw_ok kw_553 kw_0 ⟨by decide, by decide⟩ (n := 4) (by decide +kernel) kw_552 kw_551 ⟨rfl, rfl, Nat.le_of_ble_eq_true rfl, Nat.le_of_ble_eq_true rfl⟩ rfl rfl hl.1 (Nat.le_of_ble_eq_true rfl) d_Law_law_406 ⟨by omega, by omega⟩ (fun H locs w hw hB => ?_)
      obtain ⟨π, hπ, rfl⟩ := hw
      have hB : bd D classes s.heap.size s.heap.size (wB G Gm cI cL cQ o σ2 π τ (vp_updL f 0 (lb false))) s H locs := bd_perm hB wAB
      refine lv_istore (lv' := [(5, .int 0), (0, .ref b), (1, .ref (G 0 0)), (2, .ref (Gm 4 0)), (3, .ref o), (4, .int (nI (6 * n)))]) hx hb d_Law_law_409 hl (by decide) rfl (fun ls hl => ?_)
      refine lv_aload_n hx hb d_Law_law_411 rfl (lv_at hl 3 rfl) ?_
      refine rdj hK hn hB.2.2 (lv_at hl 1 rfl) (lv_at hl 5 rfl) (j := 1) (by decide) d_Law_law_412 d_Law_law_413 d_Law_law_415 (by decide) d_Law_law_416 d_Law_law_417 ?_
      refine rdj hK hn hB.2.2 (lv_at hl 1 rfl) (lv_at hl 5 rfl) (j := 2) (by decide) d_Law_law_418 d_Law_law_419 d_Law_law_421 (by decide) d_Law_law_422 d_Law_law_423 ?_
      refine kV hC hB _ lkM_o rfl (c_Mo_port τ (xs (6 * n + 1)) (xs (6 * n + 2)) (eq_true ok1)) allw_ok mf_Mo_port kw_1031 kw_1032 kw_1030 ⟨rfl, rfl, Nat.le_of_ble_eq_true rfl, Nat.le_of_ble_eq_true rfl⟩ rfl rfl hl.1 (Nat.le_of_ble_eq_true rfl) d_Law_law_424 ⟨by omega, by omega⟩ (fun H locs w hw hB => ?_)
      subst hw
      have hB : bd D classes s.heap.size s.heap.size (wB G Gm cI cL cQ o σ2 π ((m_Mo_port τ (xs (6 * n + 1)) (xs (6 * n + 2))).2) (vp_updL f 0 (lb false))) s H locs := hB
      refine lv_istore (lv' := [(6, .int (bi ((m_Mo_port τ (xs (6 * n + 1)) (xs (6 * n + 2))).1))), (5, .int 0), (0, .ref b), (1, .ref (G 0 0)), (2, .ref (Gm 4 0)), (3, .ref o), (4, .int (nI (6 * n)))]) hx hb d_Law_law_427 hl (by decide) rfl (fun ls hl => ?_)
      refine lv_aload_n hx hb d_Law_law_429 rfl (lv_at hl 4 rfl) ?_
      refine kV hC hB _ lkM_o rfl (c_Mo_thrown ((m_Mo_port τ (xs (6 * n + 1)) (xs (6 * n + 2))).2) rfl) allw_ok mf_Mo_thrown kw_950 kw_951 kw_949 ⟨rfl, rfl, Nat.le_of_ble_eq_true rfl, Nat.le_of_ble_eq_true rfl⟩ rfl rfl hl.1 (Nat.le_of_ble_eq_true rfl) d_Law_law_430 ⟨by omega, by omega⟩ (roK fun H locs hB => ?_)
      refine lv_iload hx hb d_Law_law_433 (lv_at hl 1 rfl) ?_
      refine lv_icmp_eq (tgt := 440) hx hb d_Law_law_435 (by decide) (fun c_1 => ?_) (fun c_1 => absurd h0 c_1)
      refine lv_iload hx hb d_Law_law_440 (lv_at hl 1 rfl) ?_
      refine lv_if_ne (tgt := 464) hx hb d_Law_law_442 (by decide) (fun c_2 => absurd rfl c_2) (fun c_2 => ?_)
      refine lv_aload_n hx hb d_Law_law_445 rfl (lv_at hl 5 rfl) ?_
      refine lv_iconst (v := 0) hx hb d_Law_law_446 (by decide) ?_
      refine va_lald hx hb hC.2.2.2.2.2.2.2.1.1 hB.1 12 1 wB_out rfl vin0 d_Law_law_447 ?_
      refine lv_iload hx hb d_Law_law_448 (lv_at hl 0 rfl) ?_
      refine lv_if_eq (tgt := 457) hx hb d_Law_law_450 (by decide) (fun c_3 => ?_) (fun c_3 => absurd (by rw [← hv]; rfl) c_3)
      refine lv_lconst (v := 0) hx hb d_Law_law_457 (by decide) ?_
      refine W.lcmp hx hb d_Law_law_458 ?_
      refine lv_if_eq (tgt := 464) hx hb d_Law_law_459 (by decide) (fun c_4 => ?_) (fun c_4 => absurd (cmp0.mpr rfl) c_4)
      refine lv_goto (tgt := 1662) hx hb d_Law_law_464 (by decide) ?_
      exact hN _ π ((m_Mo_port τ (xs (6 * n + 1)) (xs (6 * n + 2))).2) _ _ _ _ _ ls hπ hRL (cst_up hc hns (by omega) (by omega)) (bd_perm hB wAB.symm) (lv_sub hl [2, 3, 4, 5, 6] rfl)
    · refine lv_aload_n hx hb d_Law_law_392 rfl (lv_at hl 1 rfl) ?_
      refine rdj hK hn hB.2.2 (lv_at hl 0 rfl) (lv_at hl 4 rfl) (j := 1) (by decide) d_Law_law_393 d_Law_law_394 d_Law_law_396 (by decide) d_Law_law_397 d_Law_law_398 ?_
      refine rdj hK hn hB.2.2 (lv_at hl 0 rfl) (lv_at hl 4 rfl) (j := 2) (by decide) d_Law_law_399 d_Law_law_400 d_Law_law_402 (by decide) d_Law_law_403 d_Law_law_404 ?_
      refine lv_aload_n hx hb d_Law_law_405 rfl (lv_at hl 3 rfl) ?_
      refine kSW hC hSW (Nat.le_refl _) hB (h_port σ π hπ o f (xs (6 * n + 1)) (xs (6 * n + 2)) (true, σ2) hM) allw_ok kw_553 kw_0 ⟨by decide, by decide⟩ (n := 4) (by decide +kernel) kw_552 kw_551 ⟨rfl, rfl, Nat.le_of_ble_eq_true rfl, Nat.le_of_ble_eq_true rfl⟩ rfl rfl hl.1 (Nat.le_of_ble_eq_true rfl) d_Law_law_406 ⟨by omega, by omega⟩ (fun H locs w hw hB => ?_)
      obtain ⟨π, hπ, rfl⟩ := hw
      have hB : bd D classes s.heap.size s.heap.size (wB G Gm cI cL cQ o σ2 π τ (vp_updL f 0 (lb true))) s H locs := bd_perm hB wAB
      refine lv_istore (lv' := [(5, .int 0), (0, .ref b), (1, .ref (G 0 0)), (2, .ref (Gm 4 0)), (3, .ref o), (4, .int (nI (6 * n)))]) hx hb d_Law_law_409 hl (by decide) rfl (fun ls hl => ?_)
      refine lv_aload_n hx hb d_Law_law_411 rfl (lv_at hl 3 rfl) ?_
      refine rdj hK hn hB.2.2 (lv_at hl 1 rfl) (lv_at hl 5 rfl) (j := 1) (by decide) d_Law_law_412 d_Law_law_413 d_Law_law_415 (by decide) d_Law_law_416 d_Law_law_417 ?_
      refine rdj hK hn hB.2.2 (lv_at hl 1 rfl) (lv_at hl 5 rfl) (j := 2) (by decide) d_Law_law_418 d_Law_law_419 d_Law_law_421 (by decide) d_Law_law_422 d_Law_law_423 ?_
      refine kV hC hB _ lkM_o rfl (c_Mo_port τ (xs (6 * n + 1)) (xs (6 * n + 2)) (eq_true ok1)) allw_ok mf_Mo_port kw_1031 kw_1032 kw_1030 ⟨rfl, rfl, Nat.le_of_ble_eq_true rfl, Nat.le_of_ble_eq_true rfl⟩ rfl rfl hl.1 (Nat.le_of_ble_eq_true rfl) d_Law_law_424 ⟨by omega, by omega⟩ (fun H locs w hw hB => ?_)
      subst hw
      have hB : bd D classes s.heap.size s.heap.size (wB G Gm cI cL cQ o σ2 π ((m_Mo_port τ (xs (6 * n + 1)) (xs (6 * n + 2))).2) (vp_updL f 0 (lb true))) s H locs := hB
      refine lv_istore (lv' := [(6, .int (bi ((m_Mo_port τ (xs (6 * n + 1)) (xs (6 * n + 2))).1))), (5, .int 0), (0, .ref b), (1, .ref (G 0 0)), (2, .ref (Gm 4 0)), (3, .ref o), (4, .int (nI (6 * n)))]) hx hb d_Law_law_427 hl (by decide) rfl (fun ls hl => ?_)
      refine lv_aload_n hx hb d_Law_law_429 rfl (lv_at hl 4 rfl) ?_
      refine kV hC hB _ lkM_o rfl (c_Mo_thrown ((m_Mo_port τ (xs (6 * n + 1)) (xs (6 * n + 2))).2) rfl) allw_ok mf_Mo_thrown kw_950 kw_951 kw_949 ⟨rfl, rfl, Nat.le_of_ble_eq_true rfl, Nat.le_of_ble_eq_true rfl⟩ rfl rfl hl.1 (Nat.le_of_ble_eq_true rfl) d_Law_law_430 ⟨by omega, by omega⟩ (roK fun H locs hB => ?_)
      refine lv_iload hx hb d_Law_law_433 (lv_at hl 1 rfl) ?_
      refine lv_icmp_eq (tgt := 440) hx hb d_Law_law_435 (by decide) (fun c_1 => ?_) (fun c_1 => absurd h0 c_1)
      refine lv_iload hx hb d_Law_law_440 (lv_at hl 1 rfl) ?_
      refine lv_if_ne (tgt := 464) hx hb d_Law_law_442 (by decide) (fun c_2 => absurd rfl c_2) (fun c_2 => ?_)
      refine lv_aload_n hx hb d_Law_law_445 rfl (lv_at hl 5 rfl) ?_
      refine lv_iconst (v := 0) hx hb d_Law_law_446 (by decide) ?_
      refine va_lald hx hb hC.2.2.2.2.2.2.2.1.1 hB.1 12 1 wB_out rfl vin0 d_Law_law_447 ?_
      refine lv_iload hx hb d_Law_law_448 (lv_at hl 0 rfl) ?_
      refine lv_if_eq (tgt := 457) hx hb d_Law_law_450 (by decide) (fun c_3 => absurd c_3 (by rw [← hv]; decide)) (fun c_3 => ?_)
      refine lv_lconst (v := 1) hx hb d_Law_law_453 (by decide) ?_
      refine lv_goto (tgt := 458) hx hb d_Law_law_454 (by decide) ?_
      refine W.lcmp hx hb d_Law_law_458 ?_
      refine lv_if_eq (tgt := 464) hx hb d_Law_law_459 (by decide) (fun c_4 => ?_) (fun c_4 => absurd (cmp0.mpr rfl) c_4)
      refine lv_goto (tgt := 1662) hx hb d_Law_law_464 (by decide) ?_
      exact hN _ π ((m_Mo_port τ (xs (6 * n + 1)) (xs (6 * n + 2))).2) _ _ _ _ _ ls hπ hRL (cst_up hc hns (by omega) (by omega)) (bd_perm hB wAB.symm) (lv_sub hl [2, 3, 4, 5, 6] rfl)
set_option maxHeartbeats 1000000 in
set_option maxRecDepth 100000 in
theorem lw_join (hK : LC D cI cL cQ p l s m meth c b L xs) {n : Nat} (hn : 6 * n + 6 ≤ L) (hN : NX D G Gm cI cL cQ o p l e s m below meth c b n) {σ : SC} {π : PJ} {τ : SM} {f : Nat → Int64} {H : Heap} {locs : List Loc} {cells slots : Nat} {ls : Array Slot} (hπ : RJ π σ) (hR : RL n σ τ) (hc : cst n σ cells slots) (hB : bd D classes s.heap.size s.heap.size (wA G Gm cI cL cQ o σ π τ f) s H locs) (hl : lv_has ls 8 [(0, .ref b), (1, .ref (G 0 0)), (2, .ref (Gm 4 0)), (3, .ref o), (4, .int (nI (6 * n)))]) : WL p l e s m below meth c b H locs cells slots (F0 m 467 ls []) := by
  obtain ⟨hC, hSW, htl, hX, hbl, hL⟩ := id hK
  have hx := hC.1
  have hb := hC.2.1
  obtain ⟨hr1, hr2⟩ := cst_room hc hR (by omega)
  obtain ⟨ok1, ok2⟩ := op_join (c := n) (by omega) hR (xs (6 * n + 1)) (xs (6 * n + 2)) (xs (6 * n + 3))
  rcases ok2 with ⟨hM, h0, hRL⟩ | ⟨v, σ2, hM, h0, hv, hRL, hns⟩
  · refine lv_aload_n hx hb d_Law_law_467 rfl (lv_at hl 1 rfl) ?_
    refine rdj hK hn hB.2.2 (lv_at hl 0 rfl) (lv_at hl 4 rfl) (j := 1) (by decide) d_Law_law_468 d_Law_law_469 d_Law_law_471 (by decide) d_Law_law_472 d_Law_law_473 ?_
    refine rdj hK hn hB.2.2 (lv_at hl 0 rfl) (lv_at hl 4 rfl) (j := 2) (by decide) d_Law_law_474 d_Law_law_475 d_Law_law_477 (by decide) d_Law_law_478 d_Law_law_479 ?_
    refine rdj hK hn hB.2.2 (lv_at hl 0 rfl) (lv_at hl 4 rfl) (j := 3) (by decide) d_Law_law_480 d_Law_law_481 d_Law_law_483 (by decide) d_Law_law_484 d_Law_law_485 ?_
    refine lv_aload_n hx hb d_Law_law_486 rfl (lv_at hl 3 rfl) ?_
    refine kSW hC hSW (Nat.le_refl _) hB (ht_join htl σ π hπ o f (xs (6 * n + 1)) (xs (6 * n + 2)) (xs (6 * n + 3)) hM) allw_ok kw_570 kw_0 ⟨by decide, by decide⟩ (n := 5) (by decide +kernel) kw_569 kw_568 ⟨rfl, rfl, Nat.le_of_ble_eq_true rfl, Nat.le_of_ble_eq_true rfl⟩ rfl rfl hl.1 (Nat.le_of_ble_eq_true rfl) d_Law_law_487 ⟨by omega, by omega⟩ (fun H locs w hw hB => ?_)
    obtain ⟨π, hπ, rfl⟩ := hw
    have hB : bd D classes s.heap.size s.heap.size (wB G Gm cI cL cQ o σ π τ f) s H locs := bd_perm hB wAB
    refine lv_istore (lv' := [(5, .int 1), (0, .ref b), (1, .ref (G 0 0)), (2, .ref (Gm 4 0)), (3, .ref o), (4, .int (nI (6 * n)))]) hx hb d_Law_law_490 hl (by decide) rfl (fun ls hl => ?_)
    refine lv_aload_n hx hb d_Law_law_492 rfl (lv_at hl 3 rfl) ?_
    refine rdj hK hn hB.2.2 (lv_at hl 1 rfl) (lv_at hl 5 rfl) (j := 1) (by decide) d_Law_law_493 d_Law_law_494 d_Law_law_496 (by decide) d_Law_law_497 d_Law_law_498 ?_
    refine rdj hK hn hB.2.2 (lv_at hl 1 rfl) (lv_at hl 5 rfl) (j := 2) (by decide) d_Law_law_499 d_Law_law_500 d_Law_law_502 (by decide) d_Law_law_503 d_Law_law_504 ?_
    refine rdj hK hn hB.2.2 (lv_at hl 1 rfl) (lv_at hl 5 rfl) (j := 3) (by decide) d_Law_law_505 d_Law_law_506 d_Law_law_508 (by decide) d_Law_law_509 d_Law_law_510 ?_
    refine kV hC hB _ lkM_o rfl (c_Mo_join τ (xs (6 * n + 1)) (xs (6 * n + 2)) (xs (6 * n + 3)) (eq_true ok1)) allw_ok mf_Mo_join kw_1038 kw_1039 kw_1037 ⟨rfl, rfl, Nat.le_of_ble_eq_true rfl, Nat.le_of_ble_eq_true rfl⟩ rfl rfl hl.1 (Nat.le_of_ble_eq_true rfl) d_Law_law_511 ⟨by omega, by omega⟩ (fun H locs w hw hB => ?_)
    subst hw
    have hB : bd D classes s.heap.size s.heap.size (wB G Gm cI cL cQ o σ π ((m_Mo_join τ (xs (6 * n + 1)) (xs (6 * n + 2)) (xs (6 * n + 3))).2) f) s H locs := hB
    refine lv_istore (lv' := [(6, .int (bi ((m_Mo_join τ (xs (6 * n + 1)) (xs (6 * n + 2)) (xs (6 * n + 3))).1))), (5, .int 1), (0, .ref b), (1, .ref (G 0 0)), (2, .ref (Gm 4 0)), (3, .ref o), (4, .int (nI (6 * n)))]) hx hb d_Law_law_514 hl (by decide) rfl (fun ls hl => ?_)
    refine lv_aload_n hx hb d_Law_law_516 rfl (lv_at hl 4 rfl) ?_
    refine kV hC hB _ lkM_o rfl (c_Mo_thrown ((m_Mo_join τ (xs (6 * n + 1)) (xs (6 * n + 2)) (xs (6 * n + 3))).2) rfl) allw_ok mf_Mo_thrown kw_950 kw_951 kw_949 ⟨rfl, rfl, Nat.le_of_ble_eq_true rfl, Nat.le_of_ble_eq_true rfl⟩ rfl rfl hl.1 (Nat.le_of_ble_eq_true rfl) d_Law_law_517 ⟨by omega, by omega⟩ (roK fun H locs hB => ?_)
    refine lv_iload hx hb d_Law_law_520 (lv_at hl 1 rfl) ?_
    refine lv_icmp_eq (tgt := 527) hx hb d_Law_law_522 (by decide) (fun c_1 => ?_) (fun c_1 => absurd h0 c_1)
    refine lv_iload hx hb d_Law_law_527 (lv_at hl 1 rfl) ?_
    refine lv_if_ne (tgt := 551) hx hb d_Law_law_529 (by decide) (fun c_2 => ?_) (fun c_2 => absurd c_2 (by decide))
    refine lv_goto (tgt := 1662) hx hb d_Law_law_551 (by decide) ?_
    exact hN _ π ((m_Mo_join τ (xs (6 * n + 1)) (xs (6 * n + 2)) (xs (6 * n + 3))).2) _ _ _ _ _ ls hπ hRL (cst_up hc (Nat.le_succ _) (by omega) (by omega)) (bd_perm hB wAB.symm) (lv_sub hl [2, 3, 4, 5, 6] rfl)
  · rcases v with _ | _
    · refine lv_aload_n hx hb d_Law_law_467 rfl (lv_at hl 1 rfl) ?_
      refine rdj hK hn hB.2.2 (lv_at hl 0 rfl) (lv_at hl 4 rfl) (j := 1) (by decide) d_Law_law_468 d_Law_law_469 d_Law_law_471 (by decide) d_Law_law_472 d_Law_law_473 ?_
      refine rdj hK hn hB.2.2 (lv_at hl 0 rfl) (lv_at hl 4 rfl) (j := 2) (by decide) d_Law_law_474 d_Law_law_475 d_Law_law_477 (by decide) d_Law_law_478 d_Law_law_479 ?_
      refine rdj hK hn hB.2.2 (lv_at hl 0 rfl) (lv_at hl 4 rfl) (j := 3) (by decide) d_Law_law_480 d_Law_law_481 d_Law_law_483 (by decide) d_Law_law_484 d_Law_law_485 ?_
      refine lv_aload_n hx hb d_Law_law_486 rfl (lv_at hl 3 rfl) ?_
      refine kSW hC hSW (Nat.le_refl _) hB (h_join σ π hπ o f (xs (6 * n + 1)) (xs (6 * n + 2)) (xs (6 * n + 3)) (false, σ2) hM) allw_ok kw_570 kw_0 ⟨by decide, by decide⟩ (n := 5) (by decide +kernel) kw_569 kw_568 ⟨rfl, rfl, Nat.le_of_ble_eq_true rfl, Nat.le_of_ble_eq_true rfl⟩ rfl rfl hl.1 (Nat.le_of_ble_eq_true rfl) d_Law_law_487 ⟨by omega, by omega⟩ (fun H locs w hw hB => ?_)
      obtain ⟨π, hπ, rfl⟩ := hw
      have hB : bd D classes s.heap.size s.heap.size (wB G Gm cI cL cQ o σ2 π τ (vp_updL f 0 (lb false))) s H locs := bd_perm hB wAB
      refine lv_istore (lv' := [(5, .int 0), (0, .ref b), (1, .ref (G 0 0)), (2, .ref (Gm 4 0)), (3, .ref o), (4, .int (nI (6 * n)))]) hx hb d_Law_law_490 hl (by decide) rfl (fun ls hl => ?_)
      refine lv_aload_n hx hb d_Law_law_492 rfl (lv_at hl 3 rfl) ?_
      refine rdj hK hn hB.2.2 (lv_at hl 1 rfl) (lv_at hl 5 rfl) (j := 1) (by decide) d_Law_law_493 d_Law_law_494 d_Law_law_496 (by decide) d_Law_law_497 d_Law_law_498 ?_
      refine rdj hK hn hB.2.2 (lv_at hl 1 rfl) (lv_at hl 5 rfl) (j := 2) (by decide) d_Law_law_499 d_Law_law_500 d_Law_law_502 (by decide) d_Law_law_503 d_Law_law_504 ?_
      refine rdj hK hn hB.2.2 (lv_at hl 1 rfl) (lv_at hl 5 rfl) (j := 3) (by decide) d_Law_law_505 d_Law_law_506 d_Law_law_508 (by decide) d_Law_law_509 d_Law_law_510 ?_
      refine kV hC hB _ lkM_o rfl (c_Mo_join τ (xs (6 * n + 1)) (xs (6 * n + 2)) (xs (6 * n + 3)) (eq_true ok1)) allw_ok mf_Mo_join kw_1038 kw_1039 kw_1037 ⟨rfl, rfl, Nat.le_of_ble_eq_true rfl, Nat.le_of_ble_eq_true rfl⟩ rfl rfl hl.1 (Nat.le_of_ble_eq_true rfl) d_Law_law_511 ⟨by omega, by omega⟩ (fun H locs w hw hB => ?_)
      subst hw
      have hB : bd D classes s.heap.size s.heap.size (wB G Gm cI cL cQ o σ2 π ((m_Mo_join τ (xs (6 * n + 1)) (xs (6 * n + 2)) (xs (6 * n + 3))).2) (vp_updL f 0 (lb false))) s H locs := hB
      refine lv_istore (lv' := [(6, .int (bi ((m_Mo_join τ (xs (6 * n + 1)) (xs (6 * n + 2)) (xs (6 * n + 3))).1))), (5, .int 0), (0, .ref b), (1, .ref (G 0 0)), (2, .ref (Gm 4 0)), (3, .ref o), (4, .int (nI (6 * n)))]) hx hb d_Law_law_514 hl (by decide) rfl (fun ls hl => ?_)
      refine lv_aload_n hx hb d_Law_law_516 rfl (lv_at hl 4 rfl) ?_
      refine kV hC hB _ lkM_o rfl (c_Mo_thrown ((m_Mo_join τ (xs (6 * n + 1)) (xs (6 * n + 2)) (xs (6 * n + 3))).2) rfl) allw_ok mf_Mo_thrown kw_950 kw_951 kw_949 ⟨rfl, rfl, Nat.le_of_ble_eq_true rfl, Nat.le_of_ble_eq_true rfl⟩ rfl rfl hl.1 (Nat.le_of_ble_eq_true rfl) d_Law_law_517 ⟨by omega, by omega⟩ (roK fun H locs hB => ?_)
      refine lv_iload hx hb d_Law_law_520 (lv_at hl 1 rfl) ?_
      refine lv_icmp_eq (tgt := 527) hx hb d_Law_law_522 (by decide) (fun c_1 => ?_) (fun c_1 => absurd h0 c_1)
      refine lv_iload hx hb d_Law_law_527 (lv_at hl 1 rfl) ?_
      refine lv_if_ne (tgt := 551) hx hb d_Law_law_529 (by decide) (fun c_2 => absurd rfl c_2) (fun c_2 => ?_)
      refine lv_aload_n hx hb d_Law_law_532 rfl (lv_at hl 5 rfl) ?_
      refine lv_iconst (v := 0) hx hb d_Law_law_533 (by decide) ?_
      refine va_lald hx hb hC.2.2.2.2.2.2.2.1.1 hB.1 12 1 wB_out rfl vin0 d_Law_law_534 ?_
      refine lv_iload hx hb d_Law_law_535 (lv_at hl 0 rfl) ?_
      refine lv_if_eq (tgt := 544) hx hb d_Law_law_537 (by decide) (fun c_3 => ?_) (fun c_3 => absurd (by rw [← hv]; rfl) c_3)
      refine lv_lconst (v := 0) hx hb d_Law_law_544 (by decide) ?_
      refine W.lcmp hx hb d_Law_law_545 ?_
      refine lv_if_eq (tgt := 551) hx hb d_Law_law_546 (by decide) (fun c_4 => ?_) (fun c_4 => absurd (cmp0.mpr rfl) c_4)
      refine lv_goto (tgt := 1662) hx hb d_Law_law_551 (by decide) ?_
      exact hN _ π ((m_Mo_join τ (xs (6 * n + 1)) (xs (6 * n + 2)) (xs (6 * n + 3))).2) _ _ _ _ _ ls hπ hRL (cst_up hc hns (by omega) (by omega)) (bd_perm hB wAB.symm) (lv_sub hl [2, 3, 4, 5, 6] rfl)
    · refine lv_aload_n hx hb d_Law_law_467 rfl (lv_at hl 1 rfl) ?_
      refine rdj hK hn hB.2.2 (lv_at hl 0 rfl) (lv_at hl 4 rfl) (j := 1) (by decide) d_Law_law_468 d_Law_law_469 d_Law_law_471 (by decide) d_Law_law_472 d_Law_law_473 ?_
      refine rdj hK hn hB.2.2 (lv_at hl 0 rfl) (lv_at hl 4 rfl) (j := 2) (by decide) d_Law_law_474 d_Law_law_475 d_Law_law_477 (by decide) d_Law_law_478 d_Law_law_479 ?_
      refine rdj hK hn hB.2.2 (lv_at hl 0 rfl) (lv_at hl 4 rfl) (j := 3) (by decide) d_Law_law_480 d_Law_law_481 d_Law_law_483 (by decide) d_Law_law_484 d_Law_law_485 ?_
      refine lv_aload_n hx hb d_Law_law_486 rfl (lv_at hl 3 rfl) ?_
      refine kSW hC hSW (Nat.le_refl _) hB (h_join σ π hπ o f (xs (6 * n + 1)) (xs (6 * n + 2)) (xs (6 * n + 3)) (true, σ2) hM) allw_ok kw_570 kw_0 ⟨by decide, by decide⟩ (n := 5) (by decide +kernel) kw_569 kw_568 ⟨rfl, rfl, Nat.le_of_ble_eq_true rfl, Nat.le_of_ble_eq_true rfl⟩ rfl rfl hl.1 (Nat.le_of_ble_eq_true rfl) d_Law_law_487 ⟨by omega, by omega⟩ (fun H locs w hw hB => ?_)
      obtain ⟨π, hπ, rfl⟩ := hw
      have hB : bd D classes s.heap.size s.heap.size (wB G Gm cI cL cQ o σ2 π τ (vp_updL f 0 (lb true))) s H locs := bd_perm hB wAB
      refine lv_istore (lv' := [(5, .int 0), (0, .ref b), (1, .ref (G 0 0)), (2, .ref (Gm 4 0)), (3, .ref o), (4, .int (nI (6 * n)))]) hx hb d_Law_law_490 hl (by decide) rfl (fun ls hl => ?_)
      refine lv_aload_n hx hb d_Law_law_492 rfl (lv_at hl 3 rfl) ?_
      refine rdj hK hn hB.2.2 (lv_at hl 1 rfl) (lv_at hl 5 rfl) (j := 1) (by decide) d_Law_law_493 d_Law_law_494 d_Law_law_496 (by decide) d_Law_law_497 d_Law_law_498 ?_
      refine rdj hK hn hB.2.2 (lv_at hl 1 rfl) (lv_at hl 5 rfl) (j := 2) (by decide) d_Law_law_499 d_Law_law_500 d_Law_law_502 (by decide) d_Law_law_503 d_Law_law_504 ?_
      refine rdj hK hn hB.2.2 (lv_at hl 1 rfl) (lv_at hl 5 rfl) (j := 3) (by decide) d_Law_law_505 d_Law_law_506 d_Law_law_508 (by decide) d_Law_law_509 d_Law_law_510 ?_
      refine kV hC hB _ lkM_o rfl (c_Mo_join τ (xs (6 * n + 1)) (xs (6 * n + 2)) (xs (6 * n + 3)) (eq_true ok1)) allw_ok mf_Mo_join kw_1038 kw_1039 kw_1037 ⟨rfl, rfl, Nat.le_of_ble_eq_true rfl, Nat.le_of_ble_eq_true rfl⟩ rfl rfl hl.1 (Nat.le_of_ble_eq_true rfl) d_Law_law_511 ⟨by omega, by omega⟩ (fun H locs w hw hB => ?_)
      subst hw
      have hB : bd D classes s.heap.size s.heap.size (wB G Gm cI cL cQ o σ2 π ((m_Mo_join τ (xs (6 * n + 1)) (xs (6 * n + 2)) (xs (6 * n + 3))).2) (vp_updL f 0 (lb true))) s H locs := hB
      refine lv_istore (lv' := [(6, .int (bi ((m_Mo_join τ (xs (6 * n + 1)) (xs (6 * n + 2)) (xs (6 * n + 3))).1))), (5, .int 0), (0, .ref b), (1, .ref (G 0 0)), (2, .ref (Gm 4 0)), (3, .ref o), (4, .int (nI (6 * n)))]) hx hb d_Law_law_514 hl (by decide) rfl (fun ls hl => ?_)
      refine lv_aload_n hx hb d_Law_law_516 rfl (lv_at hl 4 rfl) ?_
      refine kV hC hB _ lkM_o rfl (c_Mo_thrown ((m_Mo_join τ (xs (6 * n + 1)) (xs (6 * n + 2)) (xs (6 * n + 3))).2) rfl) allw_ok mf_Mo_thrown kw_950 kw_951 kw_949 ⟨rfl, rfl, Nat.le_of_ble_eq_true rfl, Nat.le_of_ble_eq_true rfl⟩ rfl rfl hl.1 (Nat.le_of_ble_eq_true rfl) d_Law_law_517 ⟨by omega, by omega⟩ (roK fun H locs hB => ?_)
      refine lv_iload hx hb d_Law_law_520 (lv_at hl 1 rfl) ?_
      refine lv_icmp_eq (tgt := 527) hx hb d_Law_law_522 (by decide) (fun c_1 => ?_) (fun c_1 => absurd h0 c_1)
      refine lv_iload hx hb d_Law_law_527 (lv_at hl 1 rfl) ?_
      refine lv_if_ne (tgt := 551) hx hb d_Law_law_529 (by decide) (fun c_2 => absurd rfl c_2) (fun c_2 => ?_)
      refine lv_aload_n hx hb d_Law_law_532 rfl (lv_at hl 5 rfl) ?_
      refine lv_iconst (v := 0) hx hb d_Law_law_533 (by decide) ?_
      refine va_lald hx hb hC.2.2.2.2.2.2.2.1.1 hB.1 12 1 wB_out rfl vin0 d_Law_law_534 ?_
      refine lv_iload hx hb d_Law_law_535 (lv_at hl 0 rfl) ?_
      refine lv_if_eq (tgt := 544) hx hb d_Law_law_537 (by decide) (fun c_3 => absurd c_3 (by rw [← hv]; decide)) (fun c_3 => ?_)
      refine lv_lconst (v := 1) hx hb d_Law_law_540 (by decide) ?_
      refine lv_goto (tgt := 545) hx hb d_Law_law_541 (by decide) ?_
      refine W.lcmp hx hb d_Law_law_545 ?_
      refine lv_if_eq (tgt := 551) hx hb d_Law_law_546 (by decide) (fun c_4 => ?_) (fun c_4 => absurd (cmp0.mpr rfl) c_4)
      refine lv_goto (tgt := 1662) hx hb d_Law_law_551 (by decide) ?_
      exact hN _ π ((m_Mo_join τ (xs (6 * n + 1)) (xs (6 * n + 2)) (xs (6 * n + 3))).2) _ _ _ _ _ ls hπ hRL (cst_up hc hns (by omega) (by omega)) (bd_perm hB wAB.symm) (lv_sub hl [2, 3, 4, 5, 6] rfl)
set_option maxHeartbeats 1000000 in
set_option maxRecDepth 100000 in
theorem lw_joined (hK : LC D cI cL cQ p l s m meth c b L xs) {n : Nat} (hn : 6 * n + 6 ≤ L) (hN : NX D G Gm cI cL cQ o p l e s m below meth c b n) {σ : SC} {π : PJ} {τ : SM} {f : Nat → Int64} {H : Heap} {locs : List Loc} {cells slots : Nat} {ls : Array Slot} (hπ : RJ π σ) (hR : RL n σ τ) (hc : cst n σ cells slots) (hB : bd D classes s.heap.size s.heap.size (wA G Gm cI cL cQ o σ π τ f) s H locs) (hl : lv_has ls 8 [(0, .ref b), (1, .ref (G 0 0)), (2, .ref (Gm 4 0)), (3, .ref o), (4, .int (nI (6 * n)))]) : WL p l e s m below meth c b H locs cells slots (F0 m 554 ls []) := by
  obtain ⟨hC, hSW, htl, hX, hbl, hL⟩ := id hK
  have hx := hC.1
  have hb := hC.2.1
  obtain ⟨hr1, hr2⟩ := cst_room hc hR (by omega)
  obtain ⟨ok1, ok2⟩ := op_joined (c := n) (by omega) hR (xs (6 * n + 1)) (xs (6 * n + 2))
  rcases ok2 with ⟨hM, h0, hRL⟩ | ⟨v, hM, h0, hv, hRL⟩
  · refine lv_aload_n hx hb d_Law_law_554 rfl (lv_at hl 1 rfl) ?_
    refine rdj hK hn hB.2.2 (lv_at hl 0 rfl) (lv_at hl 4 rfl) (j := 1) (by decide) d_Law_law_555 d_Law_law_556 d_Law_law_558 (by decide) d_Law_law_559 d_Law_law_560 ?_
    refine rdj hK hn hB.2.2 (lv_at hl 0 rfl) (lv_at hl 4 rfl) (j := 2) (by decide) d_Law_law_561 d_Law_law_562 d_Law_law_564 (by decide) d_Law_law_565 d_Law_law_566 ?_
    refine lv_aload_n hx hb d_Law_law_567 rfl (lv_at hl 3 rfl) ?_
    refine kSW hC hSW (Nat.le_refl _) hB (ht_joined htl σ π hπ o f (xs (6 * n + 1)) (xs (6 * n + 2)) hM) allw_ok kw_580 kw_0 ⟨by decide, by decide⟩ (n := 4) (by decide +kernel) kw_579 kw_578 ⟨rfl, rfl, Nat.le_of_ble_eq_true rfl, Nat.le_of_ble_eq_true rfl⟩ rfl rfl hl.1 (Nat.le_of_ble_eq_true rfl) d_Law_law_568 ⟨by omega, by omega⟩ (fun H locs w hw hB => ?_)
    obtain ⟨π, hπ, rfl⟩ := hw
    have hB : bd D classes s.heap.size s.heap.size (wB G Gm cI cL cQ o σ π τ f) s H locs := bd_perm hB wAB
    refine lv_istore (lv' := [(5, .int 1), (0, .ref b), (1, .ref (G 0 0)), (2, .ref (Gm 4 0)), (3, .ref o), (4, .int (nI (6 * n)))]) hx hb d_Law_law_571 hl (by decide) rfl (fun ls hl => ?_)
    refine lv_aload_n hx hb d_Law_law_573 rfl (lv_at hl 3 rfl) ?_
    refine rdj hK hn hB.2.2 (lv_at hl 1 rfl) (lv_at hl 5 rfl) (j := 1) (by decide) d_Law_law_574 d_Law_law_575 d_Law_law_577 (by decide) d_Law_law_578 d_Law_law_579 ?_
    refine rdj hK hn hB.2.2 (lv_at hl 1 rfl) (lv_at hl 5 rfl) (j := 2) (by decide) d_Law_law_580 d_Law_law_581 d_Law_law_583 (by decide) d_Law_law_584 d_Law_law_585 ?_
    refine kV hC hB _ lkM_o rfl (c_Mo_joined τ (xs (6 * n + 1)) (xs (6 * n + 2)) (eq_true ok1)) allw_ok mf_Mo_joined kw_1042 kw_1043 kw_1041 ⟨rfl, rfl, Nat.le_of_ble_eq_true rfl, Nat.le_of_ble_eq_true rfl⟩ rfl rfl hl.1 (Nat.le_of_ble_eq_true rfl) d_Law_law_586 ⟨by omega, by omega⟩ (fun H locs w hw hB => ?_)
    subst hw
    have hB : bd D classes s.heap.size s.heap.size (wB G Gm cI cL cQ o σ π ((m_Mo_joined τ (xs (6 * n + 1)) (xs (6 * n + 2))).2) f) s H locs := hB
    refine lv_istore (lv' := [(6, .int ((m_Mo_joined τ (xs (6 * n + 1)) (xs (6 * n + 2))).1)), (5, .int 1), (0, .ref b), (1, .ref (G 0 0)), (2, .ref (Gm 4 0)), (3, .ref o), (4, .int (nI (6 * n)))]) hx hb d_Law_law_589 hl (by decide) rfl (fun ls hl => ?_)
    refine lv_aload_n hx hb d_Law_law_591 rfl (lv_at hl 4 rfl) ?_
    refine kV hC hB _ lkM_o rfl (c_Mo_thrown ((m_Mo_joined τ (xs (6 * n + 1)) (xs (6 * n + 2))).2) rfl) allw_ok mf_Mo_thrown kw_950 kw_951 kw_949 ⟨rfl, rfl, Nat.le_of_ble_eq_true rfl, Nat.le_of_ble_eq_true rfl⟩ rfl rfl hl.1 (Nat.le_of_ble_eq_true rfl) d_Law_law_592 ⟨by omega, by omega⟩ (roK fun H locs hB => ?_)
    refine lv_iload hx hb d_Law_law_595 (lv_at hl 1 rfl) ?_
    refine lv_icmp_eq (tgt := 602) hx hb d_Law_law_597 (by decide) (fun c_1 => ?_) (fun c_1 => absurd h0 c_1)
    refine lv_iload hx hb d_Law_law_602 (lv_at hl 1 rfl) ?_
    refine lv_if_ne (tgt := 619) hx hb d_Law_law_604 (by decide) (fun c_2 => ?_) (fun c_2 => absurd c_2 (by decide))
    refine lv_goto (tgt := 1662) hx hb d_Law_law_619 (by decide) ?_
    exact hN _ π ((m_Mo_joined τ (xs (6 * n + 1)) (xs (6 * n + 2))).2) _ _ _ _ _ ls hπ hRL (cst_up hc (Nat.le_succ _) (by omega) (by omega)) (bd_perm hB wAB.symm) (lv_sub hl [2, 3, 4, 5, 6] rfl)
  · refine lv_aload_n hx hb d_Law_law_554 rfl (lv_at hl 1 rfl) ?_
    refine rdj hK hn hB.2.2 (lv_at hl 0 rfl) (lv_at hl 4 rfl) (j := 1) (by decide) d_Law_law_555 d_Law_law_556 d_Law_law_558 (by decide) d_Law_law_559 d_Law_law_560 ?_
    refine rdj hK hn hB.2.2 (lv_at hl 0 rfl) (lv_at hl 4 rfl) (j := 2) (by decide) d_Law_law_561 d_Law_law_562 d_Law_law_564 (by decide) d_Law_law_565 d_Law_law_566 ?_
    refine lv_aload_n hx hb d_Law_law_567 rfl (lv_at hl 3 rfl) ?_
    refine kSW hC hSW (Nat.le_refl _) hB (h_joined σ π hπ o f (xs (6 * n + 1)) (xs (6 * n + 2)) v hM) allw_ok kw_580 kw_0 ⟨by decide, by decide⟩ (n := 4) (by decide +kernel) kw_579 kw_578 ⟨rfl, rfl, Nat.le_of_ble_eq_true rfl, Nat.le_of_ble_eq_true rfl⟩ rfl rfl hl.1 (Nat.le_of_ble_eq_true rfl) d_Law_law_568 ⟨by omega, by omega⟩ (fun H locs w hw hB => ?_)
    obtain ⟨π, hπ, rfl⟩ := hw
    have hB : bd D classes s.heap.size s.heap.size (wB G Gm cI cL cQ o σ π τ (vp_updL f 0 v.toInt64)) s H locs := bd_perm hB wAB
    refine lv_istore (lv' := [(5, .int 0), (0, .ref b), (1, .ref (G 0 0)), (2, .ref (Gm 4 0)), (3, .ref o), (4, .int (nI (6 * n)))]) hx hb d_Law_law_571 hl (by decide) rfl (fun ls hl => ?_)
    refine lv_aload_n hx hb d_Law_law_573 rfl (lv_at hl 3 rfl) ?_
    refine rdj hK hn hB.2.2 (lv_at hl 1 rfl) (lv_at hl 5 rfl) (j := 1) (by decide) d_Law_law_574 d_Law_law_575 d_Law_law_577 (by decide) d_Law_law_578 d_Law_law_579 ?_
    refine rdj hK hn hB.2.2 (lv_at hl 1 rfl) (lv_at hl 5 rfl) (j := 2) (by decide) d_Law_law_580 d_Law_law_581 d_Law_law_583 (by decide) d_Law_law_584 d_Law_law_585 ?_
    refine kV hC hB _ lkM_o rfl (c_Mo_joined τ (xs (6 * n + 1)) (xs (6 * n + 2)) (eq_true ok1)) allw_ok mf_Mo_joined kw_1042 kw_1043 kw_1041 ⟨rfl, rfl, Nat.le_of_ble_eq_true rfl, Nat.le_of_ble_eq_true rfl⟩ rfl rfl hl.1 (Nat.le_of_ble_eq_true rfl) d_Law_law_586 ⟨by omega, by omega⟩ (fun H locs w hw hB => ?_)
    subst hw
    have hB : bd D classes s.heap.size s.heap.size (wB G Gm cI cL cQ o σ π ((m_Mo_joined τ (xs (6 * n + 1)) (xs (6 * n + 2))).2) (vp_updL f 0 v.toInt64)) s H locs := hB
    refine lv_istore (lv' := [(6, .int ((m_Mo_joined τ (xs (6 * n + 1)) (xs (6 * n + 2))).1)), (5, .int 0), (0, .ref b), (1, .ref (G 0 0)), (2, .ref (Gm 4 0)), (3, .ref o), (4, .int (nI (6 * n)))]) hx hb d_Law_law_589 hl (by decide) rfl (fun ls hl => ?_)
    refine lv_aload_n hx hb d_Law_law_591 rfl (lv_at hl 4 rfl) ?_
    refine kV hC hB _ lkM_o rfl (c_Mo_thrown ((m_Mo_joined τ (xs (6 * n + 1)) (xs (6 * n + 2))).2) rfl) allw_ok mf_Mo_thrown kw_950 kw_951 kw_949 ⟨rfl, rfl, Nat.le_of_ble_eq_true rfl, Nat.le_of_ble_eq_true rfl⟩ rfl rfl hl.1 (Nat.le_of_ble_eq_true rfl) d_Law_law_592 ⟨by omega, by omega⟩ (roK fun H locs hB => ?_)
    refine lv_iload hx hb d_Law_law_595 (lv_at hl 1 rfl) ?_
    refine lv_icmp_eq (tgt := 602) hx hb d_Law_law_597 (by decide) (fun c_1 => ?_) (fun c_1 => absurd h0 c_1)
    refine lv_iload hx hb d_Law_law_602 (lv_at hl 1 rfl) ?_
    refine lv_if_ne (tgt := 619) hx hb d_Law_law_604 (by decide) (fun c_2 => absurd rfl c_2) (fun c_2 => ?_)
    refine lv_aload_n hx hb d_Law_law_607 rfl (lv_at hl 5 rfl) ?_
    refine lv_iconst (v := 0) hx hb d_Law_law_608 (by decide) ?_
    refine va_lald hx hb hC.2.2.2.2.2.2.2.1.1 hB.1 12 1 wB_out rfl vin0 d_Law_law_609 ?_
    refine lv_iload hx hb d_Law_law_610 (lv_at hl 0 rfl) ?_
    refine lv_i2l hx hb d_Law_law_612 rfl ?_
    refine W.lcmp hx hb d_Law_law_613 ?_
    refine lv_if_eq (tgt := 619) hx hb d_Law_law_614 (by decide) (fun c_4 => ?_) (fun c_4 => absurd (cmp0.mpr (congrArg Int32.toInt64 hv)) c_4)
    refine lv_goto (tgt := 1662) hx hb d_Law_law_619 (by decide) ?_
    exact hN _ π ((m_Mo_joined τ (xs (6 * n + 1)) (xs (6 * n + 2))).2) _ _ _ _ _ ls hπ hRL (cst_up hc (Nat.le_succ _) (by omega) (by omega)) (bd_perm hB wAB.symm) (lv_sub hl [2, 3, 4, 5, 6] rfl)
set_option maxHeartbeats 1000000 in
set_option maxRecDepth 100000 in
theorem lw_part (hK : LC D cI cL cQ p l s m meth c b L xs) {n : Nat} (hn : 6 * n + 6 ≤ L) (hN : NX D G Gm cI cL cQ o p l e s m below meth c b n) {σ : SC} {π : PJ} {τ : SM} {f : Nat → Int64} {H : Heap} {locs : List Loc} {cells slots : Nat} {ls : Array Slot} (hπ : RJ π σ) (hR : RL n σ τ) (hc : cst n σ cells slots) (hB : bd D classes s.heap.size s.heap.size (wA G Gm cI cL cQ o σ π τ f) s H locs) (hl : lv_has ls 8 [(0, .ref b), (1, .ref (G 0 0)), (2, .ref (Gm 4 0)), (3, .ref o), (4, .int (nI (6 * n)))]) : WL p l e s m below meth c b H locs cells slots (F0 m 622 ls []) := by
  obtain ⟨hC, hSW, htl, hX, hbl, hL⟩ := id hK
  have hx := hC.1
  have hb := hC.2.1
  obtain ⟨hr1, hr2⟩ := cst_room hc hR (by omega)
  obtain ⟨ok1, ok2⟩ := op_part (c := n) (by omega) hR (xs (6 * n + 1)) (xs (6 * n + 2))
  rcases ok2 with ⟨hM, h0, hRL⟩ | ⟨v, σ2, hM, h0, hv, hRL, hns⟩
  · refine lv_aload_n hx hb d_Law_law_622 rfl (lv_at hl 1 rfl) ?_
    refine rdj hK hn hB.2.2 (lv_at hl 0 rfl) (lv_at hl 4 rfl) (j := 1) (by decide) d_Law_law_623 d_Law_law_624 d_Law_law_626 (by decide) d_Law_law_627 d_Law_law_628 ?_
    refine rdj hK hn hB.2.2 (lv_at hl 0 rfl) (lv_at hl 4 rfl) (j := 2) (by decide) d_Law_law_629 d_Law_law_630 d_Law_law_632 (by decide) d_Law_law_633 d_Law_law_634 ?_
    refine lv_aload_n hx hb d_Law_law_635 rfl (lv_at hl 3 rfl) ?_
    refine kSW hC hSW (Nat.le_refl _) hB (ht_part htl σ π hπ o f (xs (6 * n + 1)) (xs (6 * n + 2)) hM) allw_ok kw_587 kw_0 ⟨by decide, by decide⟩ (n := 4) (by decide +kernel) kw_586 kw_585 ⟨rfl, rfl, Nat.le_of_ble_eq_true rfl, Nat.le_of_ble_eq_true rfl⟩ rfl rfl hl.1 (Nat.le_of_ble_eq_true rfl) d_Law_law_636 ⟨by omega, by omega⟩ (fun H locs w hw hB => ?_)
    obtain ⟨π, hπ, rfl⟩ := hw
    have hB : bd D classes s.heap.size s.heap.size (wB G Gm cI cL cQ o σ π τ f) s H locs := bd_perm hB wAB
    refine lv_istore (lv' := [(5, .int 1), (0, .ref b), (1, .ref (G 0 0)), (2, .ref (Gm 4 0)), (3, .ref o), (4, .int (nI (6 * n)))]) hx hb d_Law_law_639 hl (by decide) rfl (fun ls hl => ?_)
    refine lv_aload_n hx hb d_Law_law_641 rfl (lv_at hl 3 rfl) ?_
    refine rdj hK hn hB.2.2 (lv_at hl 1 rfl) (lv_at hl 5 rfl) (j := 1) (by decide) d_Law_law_642 d_Law_law_643 d_Law_law_645 (by decide) d_Law_law_646 d_Law_law_647 ?_
    refine rdj hK hn hB.2.2 (lv_at hl 1 rfl) (lv_at hl 5 rfl) (j := 2) (by decide) d_Law_law_648 d_Law_law_649 d_Law_law_651 (by decide) d_Law_law_652 d_Law_law_653 ?_
    refine kV hC hB _ lkM_o rfl (c_Mo_part τ (xs (6 * n + 1)) (xs (6 * n + 2)) (eq_true ok1)) allw_ok mf_Mo_part kw_1046 kw_1047 kw_1045 ⟨rfl, rfl, Nat.le_of_ble_eq_true rfl, Nat.le_of_ble_eq_true rfl⟩ rfl rfl hl.1 (Nat.le_of_ble_eq_true rfl) d_Law_law_654 ⟨by omega, by omega⟩ (fun H locs w hw hB => ?_)
    subst hw
    have hB : bd D classes s.heap.size s.heap.size (wB G Gm cI cL cQ o σ π ((m_Mo_part τ (xs (6 * n + 1)) (xs (6 * n + 2))).2) f) s H locs := hB
    refine lv_istore (lv' := [(6, .int ((m_Mo_part τ (xs (6 * n + 1)) (xs (6 * n + 2))).1)), (5, .int 1), (0, .ref b), (1, .ref (G 0 0)), (2, .ref (Gm 4 0)), (3, .ref o), (4, .int (nI (6 * n)))]) hx hb d_Law_law_657 hl (by decide) rfl (fun ls hl => ?_)
    refine lv_aload_n hx hb d_Law_law_659 rfl (lv_at hl 4 rfl) ?_
    refine kV hC hB _ lkM_o rfl (c_Mo_thrown ((m_Mo_part τ (xs (6 * n + 1)) (xs (6 * n + 2))).2) rfl) allw_ok mf_Mo_thrown kw_950 kw_951 kw_949 ⟨rfl, rfl, Nat.le_of_ble_eq_true rfl, Nat.le_of_ble_eq_true rfl⟩ rfl rfl hl.1 (Nat.le_of_ble_eq_true rfl) d_Law_law_660 ⟨by omega, by omega⟩ (roK fun H locs hB => ?_)
    refine lv_iload hx hb d_Law_law_663 (lv_at hl 1 rfl) ?_
    refine lv_icmp_eq (tgt := 670) hx hb d_Law_law_665 (by decide) (fun c_1 => ?_) (fun c_1 => absurd h0 c_1)
    refine lv_iload hx hb d_Law_law_670 (lv_at hl 1 rfl) ?_
    refine lv_if_ne (tgt := 687) hx hb d_Law_law_672 (by decide) (fun c_2 => ?_) (fun c_2 => absurd c_2 (by decide))
    refine lv_goto (tgt := 1662) hx hb d_Law_law_687 (by decide) ?_
    exact hN _ π ((m_Mo_part τ (xs (6 * n + 1)) (xs (6 * n + 2))).2) _ _ _ _ _ ls hπ hRL (cst_up hc (Nat.le_succ _) (by omega) (by omega)) (bd_perm hB wAB.symm) (lv_sub hl [2, 3, 4, 5, 6] rfl)
  · refine lv_aload_n hx hb d_Law_law_622 rfl (lv_at hl 1 rfl) ?_
    refine rdj hK hn hB.2.2 (lv_at hl 0 rfl) (lv_at hl 4 rfl) (j := 1) (by decide) d_Law_law_623 d_Law_law_624 d_Law_law_626 (by decide) d_Law_law_627 d_Law_law_628 ?_
    refine rdj hK hn hB.2.2 (lv_at hl 0 rfl) (lv_at hl 4 rfl) (j := 2) (by decide) d_Law_law_629 d_Law_law_630 d_Law_law_632 (by decide) d_Law_law_633 d_Law_law_634 ?_
    refine lv_aload_n hx hb d_Law_law_635 rfl (lv_at hl 3 rfl) ?_
    refine kSW hC hSW (Nat.le_refl _) hB (h_part σ π hπ o f (xs (6 * n + 1)) (xs (6 * n + 2)) (v, σ2) hM) allw_ok kw_587 kw_0 ⟨by decide, by decide⟩ (n := 4) (by decide +kernel) kw_586 kw_585 ⟨rfl, rfl, Nat.le_of_ble_eq_true rfl, Nat.le_of_ble_eq_true rfl⟩ rfl rfl hl.1 (Nat.le_of_ble_eq_true rfl) d_Law_law_636 ⟨by omega, by omega⟩ (fun H locs w hw hB => ?_)
    obtain ⟨π, hπ, rfl⟩ := hw
    have hB : bd D classes s.heap.size s.heap.size (wB G Gm cI cL cQ o σ2 π τ (vp_updL f 0 v.toInt64)) s H locs := bd_perm hB wAB
    refine lv_istore (lv' := [(5, .int 0), (0, .ref b), (1, .ref (G 0 0)), (2, .ref (Gm 4 0)), (3, .ref o), (4, .int (nI (6 * n)))]) hx hb d_Law_law_639 hl (by decide) rfl (fun ls hl => ?_)
    refine lv_aload_n hx hb d_Law_law_641 rfl (lv_at hl 3 rfl) ?_
    refine rdj hK hn hB.2.2 (lv_at hl 1 rfl) (lv_at hl 5 rfl) (j := 1) (by decide) d_Law_law_642 d_Law_law_643 d_Law_law_645 (by decide) d_Law_law_646 d_Law_law_647 ?_
    refine rdj hK hn hB.2.2 (lv_at hl 1 rfl) (lv_at hl 5 rfl) (j := 2) (by decide) d_Law_law_648 d_Law_law_649 d_Law_law_651 (by decide) d_Law_law_652 d_Law_law_653 ?_
    refine kV hC hB _ lkM_o rfl (c_Mo_part τ (xs (6 * n + 1)) (xs (6 * n + 2)) (eq_true ok1)) allw_ok mf_Mo_part kw_1046 kw_1047 kw_1045 ⟨rfl, rfl, Nat.le_of_ble_eq_true rfl, Nat.le_of_ble_eq_true rfl⟩ rfl rfl hl.1 (Nat.le_of_ble_eq_true rfl) d_Law_law_654 ⟨by omega, by omega⟩ (fun H locs w hw hB => ?_)
    subst hw
    have hB : bd D classes s.heap.size s.heap.size (wB G Gm cI cL cQ o σ2 π ((m_Mo_part τ (xs (6 * n + 1)) (xs (6 * n + 2))).2) (vp_updL f 0 v.toInt64)) s H locs := hB
    refine lv_istore (lv' := [(6, .int ((m_Mo_part τ (xs (6 * n + 1)) (xs (6 * n + 2))).1)), (5, .int 0), (0, .ref b), (1, .ref (G 0 0)), (2, .ref (Gm 4 0)), (3, .ref o), (4, .int (nI (6 * n)))]) hx hb d_Law_law_657 hl (by decide) rfl (fun ls hl => ?_)
    refine lv_aload_n hx hb d_Law_law_659 rfl (lv_at hl 4 rfl) ?_
    refine kV hC hB _ lkM_o rfl (c_Mo_thrown ((m_Mo_part τ (xs (6 * n + 1)) (xs (6 * n + 2))).2) rfl) allw_ok mf_Mo_thrown kw_950 kw_951 kw_949 ⟨rfl, rfl, Nat.le_of_ble_eq_true rfl, Nat.le_of_ble_eq_true rfl⟩ rfl rfl hl.1 (Nat.le_of_ble_eq_true rfl) d_Law_law_660 ⟨by omega, by omega⟩ (roK fun H locs hB => ?_)
    refine lv_iload hx hb d_Law_law_663 (lv_at hl 1 rfl) ?_
    refine lv_icmp_eq (tgt := 670) hx hb d_Law_law_665 (by decide) (fun c_1 => ?_) (fun c_1 => absurd h0 c_1)
    refine lv_iload hx hb d_Law_law_670 (lv_at hl 1 rfl) ?_
    refine lv_if_ne (tgt := 687) hx hb d_Law_law_672 (by decide) (fun c_2 => absurd rfl c_2) (fun c_2 => ?_)
    refine lv_aload_n hx hb d_Law_law_675 rfl (lv_at hl 5 rfl) ?_
    refine lv_iconst (v := 0) hx hb d_Law_law_676 (by decide) ?_
    refine va_lald hx hb hC.2.2.2.2.2.2.2.1.1 hB.1 12 1 wB_out rfl vin0 d_Law_law_677 ?_
    refine lv_iload hx hb d_Law_law_678 (lv_at hl 0 rfl) ?_
    refine lv_i2l hx hb d_Law_law_680 rfl ?_
    refine W.lcmp hx hb d_Law_law_681 ?_
    refine lv_if_eq (tgt := 687) hx hb d_Law_law_682 (by decide) (fun c_4 => ?_) (fun c_4 => absurd (cmp0.mpr (congrArg Int32.toInt64 hv)) c_4)
    refine lv_goto (tgt := 1662) hx hb d_Law_law_687 (by decide) ?_
    exact hN _ π ((m_Mo_part τ (xs (6 * n + 1)) (xs (6 * n + 2))).2) _ _ _ _ _ ls hπ hRL (cst_up hc hns (by omega) (by omega)) (bd_perm hB wAB.symm) (lv_sub hl [2, 3, 4, 5, 6] rfl)
set_option maxHeartbeats 1000000 in
set_option maxRecDepth 100000 in
theorem lw_gate (hK : LC D cI cL cQ p l s m meth c b L xs) {n : Nat} (hn : 6 * n + 6 ≤ L) (hN : NX D G Gm cI cL cQ o p l e s m below meth c b n) {σ : SC} {π : PJ} {τ : SM} {f : Nat → Int64} {H : Heap} {locs : List Loc} {cells slots : Nat} {ls : Array Slot} (hπ : RJ π σ) (hR : RL n σ τ) (hc : cst n σ cells slots) (hB : bd D classes s.heap.size s.heap.size (wA G Gm cI cL cQ o σ π τ f) s H locs) (hl : lv_has ls 8 [(0, .ref b), (1, .ref (G 0 0)), (2, .ref (Gm 4 0)), (3, .ref o), (4, .int (nI (6 * n)))]) : WL p l e s m below meth c b H locs cells slots (F0 m 690 ls []) := by
  obtain ⟨hC, hSW, htl, hX, hbl, hL⟩ := id hK
  have hx := hC.1
  have hb := hC.2.1
  obtain ⟨hr1, hr2⟩ := cst_room hc hR (by omega)
  obtain ⟨ok1, ok2⟩ := op_gate (c := n) (by omega) hR (xs (6 * n + 1)) (xs (6 * n + 2)) (xs (6 * n + 3))
  rcases ok2 with ⟨hM, h0, hRL⟩ | ⟨v, σ2, hM, h0, hv, hRL, hns⟩
  · refine lv_aload_n hx hb d_Law_law_690 rfl (lv_at hl 1 rfl) ?_
    refine rdj hK hn hB.2.2 (lv_at hl 0 rfl) (lv_at hl 4 rfl) (j := 1) (by decide) d_Law_law_691 d_Law_law_692 d_Law_law_694 (by decide) d_Law_law_695 d_Law_law_696 ?_
    refine rdj hK hn hB.2.2 (lv_at hl 0 rfl) (lv_at hl 4 rfl) (j := 2) (by decide) d_Law_law_697 d_Law_law_698 d_Law_law_700 (by decide) d_Law_law_701 d_Law_law_702 ?_
    refine rdj hK hn hB.2.2 (lv_at hl 0 rfl) (lv_at hl 4 rfl) (j := 3) (by decide) d_Law_law_703 d_Law_law_704 d_Law_law_706 (by decide) d_Law_law_707 d_Law_law_708 ?_
    refine lv_aload_n hx hb d_Law_law_709 rfl (lv_at hl 3 rfl) ?_
    refine kSW hC hSW (Nat.le_refl _) hB (ht_gate htl σ π hπ o f (xs (6 * n + 1)) (xs (6 * n + 2)) (xs (6 * n + 3)) hM) allw_ok kw_621 kw_0 ⟨by decide, by decide⟩ (n := 5) (by decide +kernel) kw_620 kw_619 ⟨rfl, rfl, Nat.le_of_ble_eq_true rfl, Nat.le_of_ble_eq_true rfl⟩ rfl rfl hl.1 (Nat.le_of_ble_eq_true rfl) d_Law_law_710 ⟨by omega, by omega⟩ (fun H locs w hw hB => ?_)
    obtain ⟨π, hπ, rfl⟩ := hw
    have hB : bd D classes s.heap.size s.heap.size (wB G Gm cI cL cQ o σ π τ f) s H locs := bd_perm hB wAB
    refine lv_istore (lv' := [(5, .int 1), (0, .ref b), (1, .ref (G 0 0)), (2, .ref (Gm 4 0)), (3, .ref o), (4, .int (nI (6 * n)))]) hx hb d_Law_law_713 hl (by decide) rfl (fun ls hl => ?_)
    refine lv_aload_n hx hb d_Law_law_715 rfl (lv_at hl 3 rfl) ?_
    refine rdj hK hn hB.2.2 (lv_at hl 1 rfl) (lv_at hl 5 rfl) (j := 1) (by decide) d_Law_law_716 d_Law_law_717 d_Law_law_719 (by decide) d_Law_law_720 d_Law_law_721 ?_
    refine rdj hK hn hB.2.2 (lv_at hl 1 rfl) (lv_at hl 5 rfl) (j := 2) (by decide) d_Law_law_722 d_Law_law_723 d_Law_law_725 (by decide) d_Law_law_726 d_Law_law_727 ?_
    refine rdj hK hn hB.2.2 (lv_at hl 1 rfl) (lv_at hl 5 rfl) (j := 3) (by decide) d_Law_law_728 d_Law_law_729 d_Law_law_731 (by decide) d_Law_law_732 d_Law_law_733 ?_
    refine kV hC hB _ lkM_o rfl (c_Mo_gate τ (xs (6 * n + 1)) (xs (6 * n + 2)) (xs (6 * n + 3)) (eq_true ok1)) allw_ok mf_Mo_gate kw_1054 kw_1055 kw_1053 ⟨rfl, rfl, Nat.le_of_ble_eq_true rfl, Nat.le_of_ble_eq_true rfl⟩ rfl rfl hl.1 (Nat.le_of_ble_eq_true rfl) d_Law_law_734 ⟨by omega, by omega⟩ (fun H locs w hw hB => ?_)
    subst hw
    have hB : bd D classes s.heap.size s.heap.size (wB G Gm cI cL cQ o σ π ((m_Mo_gate τ (xs (6 * n + 1)) (xs (6 * n + 2)) (xs (6 * n + 3))).2) f) s H locs := hB
    refine lv_istore (lv' := [(6, .int (bi ((m_Mo_gate τ (xs (6 * n + 1)) (xs (6 * n + 2)) (xs (6 * n + 3))).1))), (5, .int 1), (0, .ref b), (1, .ref (G 0 0)), (2, .ref (Gm 4 0)), (3, .ref o), (4, .int (nI (6 * n)))]) hx hb d_Law_law_737 hl (by decide) rfl (fun ls hl => ?_)
    refine lv_aload_n hx hb d_Law_law_739 rfl (lv_at hl 4 rfl) ?_
    refine kV hC hB _ lkM_o rfl (c_Mo_thrown ((m_Mo_gate τ (xs (6 * n + 1)) (xs (6 * n + 2)) (xs (6 * n + 3))).2) rfl) allw_ok mf_Mo_thrown kw_950 kw_951 kw_949 ⟨rfl, rfl, Nat.le_of_ble_eq_true rfl, Nat.le_of_ble_eq_true rfl⟩ rfl rfl hl.1 (Nat.le_of_ble_eq_true rfl) d_Law_law_740 ⟨by omega, by omega⟩ (roK fun H locs hB => ?_)
    refine lv_iload hx hb d_Law_law_743 (lv_at hl 1 rfl) ?_
    refine lv_icmp_eq (tgt := 750) hx hb d_Law_law_745 (by decide) (fun c_1 => ?_) (fun c_1 => absurd h0 c_1)
    refine lv_iload hx hb d_Law_law_750 (lv_at hl 1 rfl) ?_
    refine lv_if_ne (tgt := 774) hx hb d_Law_law_752 (by decide) (fun c_2 => ?_) (fun c_2 => absurd c_2 (by decide))
    refine lv_goto (tgt := 1662) hx hb d_Law_law_774 (by decide) ?_
    exact hN _ π ((m_Mo_gate τ (xs (6 * n + 1)) (xs (6 * n + 2)) (xs (6 * n + 3))).2) _ _ _ _ _ ls hπ hRL (cst_up hc (Nat.le_succ _) (by omega) (by omega)) (bd_perm hB wAB.symm) (lv_sub hl [2, 3, 4, 5, 6] rfl)
  · rcases v with _ | _
    · refine lv_aload_n hx hb d_Law_law_690 rfl (lv_at hl 1 rfl) ?_
      refine rdj hK hn hB.2.2 (lv_at hl 0 rfl) (lv_at hl 4 rfl) (j := 1) (by decide) d_Law_law_691 d_Law_law_692 d_Law_law_694 (by decide) d_Law_law_695 d_Law_law_696 ?_
      refine rdj hK hn hB.2.2 (lv_at hl 0 rfl) (lv_at hl 4 rfl) (j := 2) (by decide) d_Law_law_697 d_Law_law_698 d_Law_law_700 (by decide) d_Law_law_701 d_Law_law_702 ?_
      refine rdj hK hn hB.2.2 (lv_at hl 0 rfl) (lv_at hl 4 rfl) (j := 3) (by decide) d_Law_law_703 d_Law_law_704 d_Law_law_706 (by decide) d_Law_law_707 d_Law_law_708 ?_
      refine lv_aload_n hx hb d_Law_law_709 rfl (lv_at hl 3 rfl) ?_
      refine kSW hC hSW (Nat.le_refl _) hB (h_gate σ π hπ o f (xs (6 * n + 1)) (xs (6 * n + 2)) (xs (6 * n + 3)) (false, σ2) hM) allw_ok kw_621 kw_0 ⟨by decide, by decide⟩ (n := 5) (by decide +kernel) kw_620 kw_619 ⟨rfl, rfl, Nat.le_of_ble_eq_true rfl, Nat.le_of_ble_eq_true rfl⟩ rfl rfl hl.1 (Nat.le_of_ble_eq_true rfl) d_Law_law_710 ⟨by omega, by omega⟩ (fun H locs w hw hB => ?_)
      obtain ⟨π, hπ, rfl⟩ := hw
      have hB : bd D classes s.heap.size s.heap.size (wB G Gm cI cL cQ o σ2 π τ (vp_updL f 0 (lb false))) s H locs := bd_perm hB wAB
      refine lv_istore (lv' := [(5, .int 0), (0, .ref b), (1, .ref (G 0 0)), (2, .ref (Gm 4 0)), (3, .ref o), (4, .int (nI (6 * n)))]) hx hb d_Law_law_713 hl (by decide) rfl (fun ls hl => ?_)
      refine lv_aload_n hx hb d_Law_law_715 rfl (lv_at hl 3 rfl) ?_
      refine rdj hK hn hB.2.2 (lv_at hl 1 rfl) (lv_at hl 5 rfl) (j := 1) (by decide) d_Law_law_716 d_Law_law_717 d_Law_law_719 (by decide) d_Law_law_720 d_Law_law_721 ?_
      refine rdj hK hn hB.2.2 (lv_at hl 1 rfl) (lv_at hl 5 rfl) (j := 2) (by decide) d_Law_law_722 d_Law_law_723 d_Law_law_725 (by decide) d_Law_law_726 d_Law_law_727 ?_
      refine rdj hK hn hB.2.2 (lv_at hl 1 rfl) (lv_at hl 5 rfl) (j := 3) (by decide) d_Law_law_728 d_Law_law_729 d_Law_law_731 (by decide) d_Law_law_732 d_Law_law_733 ?_
      refine kV hC hB _ lkM_o rfl (c_Mo_gate τ (xs (6 * n + 1)) (xs (6 * n + 2)) (xs (6 * n + 3)) (eq_true ok1)) allw_ok mf_Mo_gate kw_1054 kw_1055 kw_1053 ⟨rfl, rfl, Nat.le_of_ble_eq_true rfl, Nat.le_of_ble_eq_true rfl⟩ rfl rfl hl.1 (Nat.le_of_ble_eq_true rfl) d_Law_law_734 ⟨by omega, by omega⟩ (fun H locs w hw hB => ?_)
      subst hw
      have hB : bd D classes s.heap.size s.heap.size (wB G Gm cI cL cQ o σ2 π ((m_Mo_gate τ (xs (6 * n + 1)) (xs (6 * n + 2)) (xs (6 * n + 3))).2) (vp_updL f 0 (lb false))) s H locs := hB
      refine lv_istore (lv' := [(6, .int (bi ((m_Mo_gate τ (xs (6 * n + 1)) (xs (6 * n + 2)) (xs (6 * n + 3))).1))), (5, .int 0), (0, .ref b), (1, .ref (G 0 0)), (2, .ref (Gm 4 0)), (3, .ref o), (4, .int (nI (6 * n)))]) hx hb d_Law_law_737 hl (by decide) rfl (fun ls hl => ?_)
      refine lv_aload_n hx hb d_Law_law_739 rfl (lv_at hl 4 rfl) ?_
      refine kV hC hB _ lkM_o rfl (c_Mo_thrown ((m_Mo_gate τ (xs (6 * n + 1)) (xs (6 * n + 2)) (xs (6 * n + 3))).2) rfl) allw_ok mf_Mo_thrown kw_950 kw_951 kw_949 ⟨rfl, rfl, Nat.le_of_ble_eq_true rfl, Nat.le_of_ble_eq_true rfl⟩ rfl rfl hl.1 (Nat.le_of_ble_eq_true rfl) d_Law_law_740 ⟨by omega, by omega⟩ (roK fun H locs hB => ?_)
      refine lv_iload hx hb d_Law_law_743 (lv_at hl 1 rfl) ?_
      refine lv_icmp_eq (tgt := 750) hx hb d_Law_law_745 (by decide) (fun c_1 => ?_) (fun c_1 => absurd h0 c_1)
      refine lv_iload hx hb d_Law_law_750 (lv_at hl 1 rfl) ?_
      refine lv_if_ne (tgt := 774) hx hb d_Law_law_752 (by decide) (fun c_2 => absurd rfl c_2) (fun c_2 => ?_)
      refine lv_aload_n hx hb d_Law_law_755 rfl (lv_at hl 5 rfl) ?_
      refine lv_iconst (v := 0) hx hb d_Law_law_756 (by decide) ?_
      refine va_lald hx hb hC.2.2.2.2.2.2.2.1.1 hB.1 12 1 wB_out rfl vin0 d_Law_law_757 ?_
      refine lv_iload hx hb d_Law_law_758 (lv_at hl 0 rfl) ?_
      refine lv_if_eq (tgt := 767) hx hb d_Law_law_760 (by decide) (fun c_3 => ?_) (fun c_3 => absurd (by rw [← hv]; rfl) c_3)
      refine lv_lconst (v := 0) hx hb d_Law_law_767 (by decide) ?_
      refine W.lcmp hx hb d_Law_law_768 ?_
      refine lv_if_eq (tgt := 774) hx hb d_Law_law_769 (by decide) (fun c_4 => ?_) (fun c_4 => absurd (cmp0.mpr rfl) c_4)
      refine lv_goto (tgt := 1662) hx hb d_Law_law_774 (by decide) ?_
      exact hN _ π ((m_Mo_gate τ (xs (6 * n + 1)) (xs (6 * n + 2)) (xs (6 * n + 3))).2) _ _ _ _ _ ls hπ hRL (cst_up hc hns (by omega) (by omega)) (bd_perm hB wAB.symm) (lv_sub hl [2, 3, 4, 5, 6] rfl)
    · refine lv_aload_n hx hb d_Law_law_690 rfl (lv_at hl 1 rfl) ?_
      refine rdj hK hn hB.2.2 (lv_at hl 0 rfl) (lv_at hl 4 rfl) (j := 1) (by decide) d_Law_law_691 d_Law_law_692 d_Law_law_694 (by decide) d_Law_law_695 d_Law_law_696 ?_
      refine rdj hK hn hB.2.2 (lv_at hl 0 rfl) (lv_at hl 4 rfl) (j := 2) (by decide) d_Law_law_697 d_Law_law_698 d_Law_law_700 (by decide) d_Law_law_701 d_Law_law_702 ?_
      refine rdj hK hn hB.2.2 (lv_at hl 0 rfl) (lv_at hl 4 rfl) (j := 3) (by decide) d_Law_law_703 d_Law_law_704 d_Law_law_706 (by decide) d_Law_law_707 d_Law_law_708 ?_
      refine lv_aload_n hx hb d_Law_law_709 rfl (lv_at hl 3 rfl) ?_
      refine kSW hC hSW (Nat.le_refl _) hB (h_gate σ π hπ o f (xs (6 * n + 1)) (xs (6 * n + 2)) (xs (6 * n + 3)) (true, σ2) hM) allw_ok kw_621 kw_0 ⟨by decide, by decide⟩ (n := 5) (by decide +kernel) kw_620 kw_619 ⟨rfl, rfl, Nat.le_of_ble_eq_true rfl, Nat.le_of_ble_eq_true rfl⟩ rfl rfl hl.1 (Nat.le_of_ble_eq_true rfl) d_Law_law_710 ⟨by omega, by omega⟩ (fun H locs w hw hB => ?_)
      obtain ⟨π, hπ, rfl⟩ := hw
      have hB : bd D classes s.heap.size s.heap.size (wB G Gm cI cL cQ o σ2 π τ (vp_updL f 0 (lb true))) s H locs := bd_perm hB wAB
      refine lv_istore (lv' := [(5, .int 0), (0, .ref b), (1, .ref (G 0 0)), (2, .ref (Gm 4 0)), (3, .ref o), (4, .int (nI (6 * n)))]) hx hb d_Law_law_713 hl (by decide) rfl (fun ls hl => ?_)
      refine lv_aload_n hx hb d_Law_law_715 rfl (lv_at hl 3 rfl) ?_
      refine rdj hK hn hB.2.2 (lv_at hl 1 rfl) (lv_at hl 5 rfl) (j := 1) (by decide) d_Law_law_716 d_Law_law_717 d_Law_law_719 (by decide) d_Law_law_720 d_Law_law_721 ?_
      refine rdj hK hn hB.2.2 (lv_at hl 1 rfl) (lv_at hl 5 rfl) (j := 2) (by decide) d_Law_law_722 d_Law_law_723 d_Law_law_725 (by decide) d_Law_law_726 d_Law_law_727 ?_
      refine rdj hK hn hB.2.2 (lv_at hl 1 rfl) (lv_at hl 5 rfl) (j := 3) (by decide) d_Law_law_728 d_Law_law_729 d_Law_law_731 (by decide) d_Law_law_732 d_Law_law_733 ?_
      refine kV hC hB _ lkM_o rfl (c_Mo_gate τ (xs (6 * n + 1)) (xs (6 * n + 2)) (xs (6 * n + 3)) (eq_true ok1)) allw_ok mf_Mo_gate kw_1054 kw_1055 kw_1053 ⟨rfl, rfl, Nat.le_of_ble_eq_true rfl, Nat.le_of_ble_eq_true rfl⟩ rfl rfl hl.1 (Nat.le_of_ble_eq_true rfl) d_Law_law_734 ⟨by omega, by omega⟩ (fun H locs w hw hB => ?_)
      subst hw
      have hB : bd D classes s.heap.size s.heap.size (wB G Gm cI cL cQ o σ2 π ((m_Mo_gate τ (xs (6 * n + 1)) (xs (6 * n + 2)) (xs (6 * n + 3))).2) (vp_updL f 0 (lb true))) s H locs := hB
      refine lv_istore (lv' := [(6, .int (bi ((m_Mo_gate τ (xs (6 * n + 1)) (xs (6 * n + 2)) (xs (6 * n + 3))).1))), (5, .int 0), (0, .ref b), (1, .ref (G 0 0)), (2, .ref (Gm 4 0)), (3, .ref o), (4, .int (nI (6 * n)))]) hx hb d_Law_law_737 hl (by decide) rfl (fun ls hl => ?_)
      refine lv_aload_n hx hb d_Law_law_739 rfl (lv_at hl 4 rfl) ?_
      refine kV hC hB _ lkM_o rfl (c_Mo_thrown ((m_Mo_gate τ (xs (6 * n + 1)) (xs (6 * n + 2)) (xs (6 * n + 3))).2) rfl) allw_ok mf_Mo_thrown kw_950 kw_951 kw_949 ⟨rfl, rfl, Nat.le_of_ble_eq_true rfl, Nat.le_of_ble_eq_true rfl⟩ rfl rfl hl.1 (Nat.le_of_ble_eq_true rfl) d_Law_law_740 ⟨by omega, by omega⟩ (roK fun H locs hB => ?_)
      refine lv_iload hx hb d_Law_law_743 (lv_at hl 1 rfl) ?_
      refine lv_icmp_eq (tgt := 750) hx hb d_Law_law_745 (by decide) (fun c_1 => ?_) (fun c_1 => absurd h0 c_1)
      refine lv_iload hx hb d_Law_law_750 (lv_at hl 1 rfl) ?_
      refine lv_if_ne (tgt := 774) hx hb d_Law_law_752 (by decide) (fun c_2 => absurd rfl c_2) (fun c_2 => ?_)
      refine lv_aload_n hx hb d_Law_law_755 rfl (lv_at hl 5 rfl) ?_
      refine lv_iconst (v := 0) hx hb d_Law_law_756 (by decide) ?_
      refine va_lald hx hb hC.2.2.2.2.2.2.2.1.1 hB.1 12 1 wB_out rfl vin0 d_Law_law_757 ?_
      refine lv_iload hx hb d_Law_law_758 (lv_at hl 0 rfl) ?_
      refine lv_if_eq (tgt := 767) hx hb d_Law_law_760 (by decide) (fun c_3 => absurd c_3 (by rw [← hv]; decide)) (fun c_3 => ?_)
      refine lv_lconst (v := 1) hx hb d_Law_law_763 (by decide) ?_
      refine lv_goto (tgt := 768) hx hb d_Law_law_764 (by decide) ?_
      refine W.lcmp hx hb d_Law_law_768 ?_
      refine lv_if_eq (tgt := 774) hx hb d_Law_law_769 (by decide) (fun c_4 => ?_) (fun c_4 => absurd (cmp0.mpr rfl) c_4)
      refine lv_goto (tgt := 1662) hx hb d_Law_law_774 (by decide) ?_
      exact hN _ π ((m_Mo_gate τ (xs (6 * n + 1)) (xs (6 * n + 2)) (xs (6 * n + 3))).2) _ _ _ _ _ ls hπ hRL (cst_up hc hns (by omega) (by omega)) (bd_perm hB wAB.symm) (lv_sub hl [2, 3, 4, 5, 6] rfl)
set_option maxHeartbeats 1000000 in
set_option maxRecDepth 100000 in
theorem lw_copy (hK : LC D cI cL cQ p l s m meth c b L xs) {n : Nat} (hn : 6 * n + 6 ≤ L) (hN : NX D G Gm cI cL cQ o p l e s m below meth c b n) {σ : SC} {π : PJ} {τ : SM} {f : Nat → Int64} {H : Heap} {locs : List Loc} {cells slots : Nat} {ls : Array Slot} (hπ : RJ π σ) (hR : RL n σ τ) (hc : cst n σ cells slots) (hB : bd D classes s.heap.size s.heap.size (wA G Gm cI cL cQ o σ π τ f) s H locs) (hl : lv_has ls 8 [(0, .ref b), (1, .ref (G 0 0)), (2, .ref (Gm 4 0)), (3, .ref o), (4, .int (nI (6 * n)))]) : WL p l e s m below meth c b H locs cells slots (F0 m 777 ls []) := by
  obtain ⟨hC, hSW, htl, hX, hbl, hL⟩ := id hK
  have hx := hC.1
  have hb := hC.2.1
  obtain ⟨hr1, hr2⟩ := cst_room hc hR (by omega)
  obtain ⟨⟨ok1, ok2⟩, okc⟩ := op_copy (c := n) (by omega) hR (xs (6 * n + 1))
  rcases ok2 with ⟨hM, h0, hRL⟩ | ⟨v, σ2, hM, h0, hv, hRL, hns⟩
  · refine lv_aload_n hx hb d_Law_law_777 rfl (lv_at hl 1 rfl) ?_
    refine rdj hK hn hB.2.2 (lv_at hl 0 rfl) (lv_at hl 4 rfl) (j := 1) (by decide) d_Law_law_778 d_Law_law_779 d_Law_law_781 (by decide) d_Law_law_782 d_Law_law_783 ?_
    refine lv_aload_n hx hb d_Law_law_784 rfl (lv_at hl 3 rfl) ?_
    refine kSW hC hSW (Nat.le_refl _) hB (ht_copy htl σ π hπ o f (xs (6 * n + 1)) hM) allw_ok kw_659 kw_0 ⟨by decide, by decide⟩ (n := 3) (by decide +kernel) kw_658 kw_657 ⟨rfl, rfl, Nat.le_of_ble_eq_true rfl, Nat.le_of_ble_eq_true rfl⟩ rfl rfl hl.1 (Nat.le_of_ble_eq_true rfl) d_Law_law_785 ⟨by omega, by omega⟩ (fun H locs w hw hB => ?_)
    obtain ⟨π, hπ, rfl⟩ := hw
    have hB : bd D classes s.heap.size s.heap.size (wB G Gm cI cL cQ o σ π τ f) s H locs := bd_perm hB wAB
    refine lv_istore (lv' := [(5, .int 1), (0, .ref b), (1, .ref (G 0 0)), (2, .ref (Gm 4 0)), (3, .ref o), (4, .int (nI (6 * n)))]) hx hb d_Law_law_788 hl (by decide) rfl (fun ls hl => ?_)
    refine lv_aload_n hx hb d_Law_law_790 rfl (lv_at hl 3 rfl) ?_
    refine rdj hK hn hB.2.2 (lv_at hl 1 rfl) (lv_at hl 5 rfl) (j := 1) (by decide) d_Law_law_791 d_Law_law_792 d_Law_law_794 (by decide) d_Law_law_795 d_Law_law_796 ?_
    refine kV hC hB _ lkM_o rfl (c_Mo_copy τ (xs (6 * n + 1)) (eq_true ok1)) allw_ok mf_Mo_copy kw_1074 kw_1075 kw_1073 ⟨rfl, rfl, Nat.le_of_ble_eq_true rfl, Nat.le_of_ble_eq_true rfl⟩ rfl rfl hl.1 (Nat.le_of_ble_eq_true rfl) d_Law_law_797 ⟨by omega, by omega⟩ (fun H locs w hw hB => ?_)
    subst hw
    have hB : bd D classes s.heap.size s.heap.size (wB G Gm cI cL cQ o σ π ((m_Mo_copy τ (xs (6 * n + 1))).2) f) s H locs := hB
    refine lv_istore (lv' := [(6, .int ((m_Mo_copy τ (xs (6 * n + 1))).1)), (5, .int 1), (0, .ref b), (1, .ref (G 0 0)), (2, .ref (Gm 4 0)), (3, .ref o), (4, .int (nI (6 * n)))]) hx hb d_Law_law_800 hl (by decide) rfl (fun ls hl => ?_)
    refine lv_aload_n hx hb d_Law_law_802 rfl (lv_at hl 4 rfl) ?_
    refine kV hC hB _ lkM_o rfl (c_Mo_thrown ((m_Mo_copy τ (xs (6 * n + 1))).2) rfl) allw_ok mf_Mo_thrown kw_950 kw_951 kw_949 ⟨rfl, rfl, Nat.le_of_ble_eq_true rfl, Nat.le_of_ble_eq_true rfl⟩ rfl rfl hl.1 (Nat.le_of_ble_eq_true rfl) d_Law_law_803 ⟨by omega, by omega⟩ (roK fun H locs hB => ?_)
    refine lv_iload hx hb d_Law_law_806 (lv_at hl 1 rfl) ?_
    refine lv_icmp_eq (tgt := 813) hx hb d_Law_law_808 (by decide) (fun c_1 => ?_) (fun c_1 => absurd h0 c_1)
    refine lv_iload hx hb d_Law_law_813 (lv_at hl 1 rfl) ?_
    refine lv_if_ne (tgt := 830) hx hb d_Law_law_815 (by decide) (fun c_2 => ?_) (fun c_2 => absurd c_2 (by decide))
    refine lv_goto (tgt := 1662) hx hb d_Law_law_830 (by decide) ?_
    exact hN _ π ((m_Mo_copy τ (xs (6 * n + 1))).2) _ _ _ _ _ ls hπ hRL (cst_up hc (Nat.le_succ _) (by omega) (by omega)) (bd_perm hB wAB.symm) (lv_sub hl [2, 3, 4, 5, 6] rfl)
  · rcases okc _ hM with hF | hcp
    · refine lv_aload_n hx hb d_Law_law_777 rfl (lv_at hl 1 rfl) ?_
      refine rdj hK hn hB.2.2 (lv_at hl 0 rfl) (lv_at hl 4 rfl) (j := 1) (by decide) d_Law_law_778 d_Law_law_779 d_Law_law_781 (by decide) d_Law_law_782 d_Law_law_783 ?_
      refine lv_aload_n hx hb d_Law_law_784 rfl (lv_at hl 3 rfl) ?_
      refine kSW hC hSW (Nat.le_refl _) hB (h0_copy σ π hπ o f (xs (6 * n + 1)) (v, σ2) hM hF) allw_ok kw_659 kw_0 ⟨by decide, by decide⟩ (n := 3) (by decide +kernel) kw_658 kw_657 ⟨rfl, rfl, Nat.le_of_ble_eq_true rfl, Nat.le_of_ble_eq_true rfl⟩ rfl rfl hl.1 (Nat.le_of_ble_eq_true rfl) d_Law_law_785 ⟨by omega, by omega⟩ (fun H locs w hw hB => ?_)
      obtain ⟨π, hπ, rfl⟩ := hw
      have hB : bd D classes s.heap.size s.heap.size (wB G Gm cI cL cQ o σ2 π τ (vp_updL f 0 v.toInt64)) s H locs := bd_perm hB wAB
      refine lv_istore (lv' := [(5, .int 0), (0, .ref b), (1, .ref (G 0 0)), (2, .ref (Gm 4 0)), (3, .ref o), (4, .int (nI (6 * n)))]) hx hb d_Law_law_788 hl (by decide) rfl (fun ls hl => ?_)
      refine lv_aload_n hx hb d_Law_law_790 rfl (lv_at hl 3 rfl) ?_
      refine rdj hK hn hB.2.2 (lv_at hl 1 rfl) (lv_at hl 5 rfl) (j := 1) (by decide) d_Law_law_791 d_Law_law_792 d_Law_law_794 (by decide) d_Law_law_795 d_Law_law_796 ?_
      refine kV hC hB _ lkM_o rfl (c_Mo_copy τ (xs (6 * n + 1)) (eq_true ok1)) allw_ok mf_Mo_copy kw_1074 kw_1075 kw_1073 ⟨rfl, rfl, Nat.le_of_ble_eq_true rfl, Nat.le_of_ble_eq_true rfl⟩ rfl rfl hl.1 (Nat.le_of_ble_eq_true rfl) d_Law_law_797 ⟨by omega, by omega⟩ (fun H locs w hw hB => ?_)
      subst hw
      have hB : bd D classes s.heap.size s.heap.size (wB G Gm cI cL cQ o σ2 π ((m_Mo_copy τ (xs (6 * n + 1))).2) (vp_updL f 0 v.toInt64)) s H locs := hB
      refine lv_istore (lv' := [(6, .int ((m_Mo_copy τ (xs (6 * n + 1))).1)), (5, .int 0), (0, .ref b), (1, .ref (G 0 0)), (2, .ref (Gm 4 0)), (3, .ref o), (4, .int (nI (6 * n)))]) hx hb d_Law_law_800 hl (by decide) rfl (fun ls hl => ?_)
      refine lv_aload_n hx hb d_Law_law_802 rfl (lv_at hl 4 rfl) ?_
      refine kV hC hB _ lkM_o rfl (c_Mo_thrown ((m_Mo_copy τ (xs (6 * n + 1))).2) rfl) allw_ok mf_Mo_thrown kw_950 kw_951 kw_949 ⟨rfl, rfl, Nat.le_of_ble_eq_true rfl, Nat.le_of_ble_eq_true rfl⟩ rfl rfl hl.1 (Nat.le_of_ble_eq_true rfl) d_Law_law_803 ⟨by omega, by omega⟩ (roK fun H locs hB => ?_)
      refine lv_iload hx hb d_Law_law_806 (lv_at hl 1 rfl) ?_
      refine lv_icmp_eq (tgt := 813) hx hb d_Law_law_808 (by decide) (fun c_1 => ?_) (fun c_1 => absurd h0 c_1)
      refine lv_iload hx hb d_Law_law_813 (lv_at hl 1 rfl) ?_
      refine lv_if_ne (tgt := 830) hx hb d_Law_law_815 (by decide) (fun c_2 => absurd rfl c_2) (fun c_2 => ?_)
      refine lv_aload_n hx hb d_Law_law_818 rfl (lv_at hl 5 rfl) ?_
      refine lv_iconst (v := 0) hx hb d_Law_law_819 (by decide) ?_
      refine va_lald hx hb hC.2.2.2.2.2.2.2.1.1 hB.1 12 1 wB_out rfl vin0 d_Law_law_820 ?_
      refine lv_iload hx hb d_Law_law_821 (lv_at hl 0 rfl) ?_
      refine lv_i2l hx hb d_Law_law_823 rfl ?_
      refine W.lcmp hx hb d_Law_law_824 ?_
      refine lv_if_eq (tgt := 830) hx hb d_Law_law_825 (by decide) (fun c_4 => ?_) (fun c_4 => absurd (cmp0.mpr (congrArg Int32.toInt64 hv)) c_4)
      refine lv_goto (tgt := 1662) hx hb d_Law_law_830 (by decide) ?_
      exact hN _ π ((m_Mo_copy τ (xs (6 * n + 1))).2) _ _ _ _ _ ls hπ hRL (cst_up hc hns (by omega) (by omega)) (bd_perm hB wAB.symm) (lv_sub hl [2, 3, 4, 5, 6] rfl)
    · refine lv_aload_n hx hb d_Law_law_777 rfl (lv_at hl 1 rfl) ?_
      refine rdj hK hn hB.2.2 (lv_at hl 0 rfl) (lv_at hl 4 rfl) (j := 1) (by decide) d_Law_law_778 d_Law_law_779 d_Law_law_781 (by decide) d_Law_law_782 d_Law_law_783 ?_
      refine lv_aload_n hx hb d_Law_law_784 rfl (lv_at hl 3 rfl) ?_
      have hc2 := hcp.2
      refine kSW hC hSW (Nat.le_refl _) hB (h_copy σ π hπ o f (xs (6 * n + 1)) (v, σ2) hM) allw_ok kw_659 kw_0 ⟨by decide, by decide⟩ (n := 3) (by decide +kernel) kw_658 kw_657 ⟨rfl, rfl, Nat.le_of_ble_eq_true rfl, Nat.le_of_ble_eq_true rfl⟩ rfl rfl hl.1 (Nat.le_of_ble_eq_true rfl) d_Law_law_785 ⟨by omega, by omega⟩ (fun H locs w hw hB => ?_)
      obtain ⟨π, hπ, rfl⟩ := hw
      have hB : bd D classes s.heap.size s.heap.size (wB G Gm cI cL cQ o σ2 π τ (vp_updL f 0 v.toInt64)) s H locs := bd_perm hB wAB
      refine lv_istore (lv' := [(5, .int 0), (0, .ref b), (1, .ref (G 0 0)), (2, .ref (Gm 4 0)), (3, .ref o), (4, .int (nI (6 * n)))]) hx hb d_Law_law_788 hl (by decide) rfl (fun ls hl => ?_)
      refine lv_aload_n hx hb d_Law_law_790 rfl (lv_at hl 3 rfl) ?_
      refine rdj hK hn hB.2.2 (lv_at hl 1 rfl) (lv_at hl 5 rfl) (j := 1) (by decide) d_Law_law_791 d_Law_law_792 d_Law_law_794 (by decide) d_Law_law_795 d_Law_law_796 ?_
      refine kV hC hB _ lkM_o rfl (c_Mo_copy τ (xs (6 * n + 1)) (eq_true ok1)) allw_ok mf_Mo_copy kw_1074 kw_1075 kw_1073 ⟨rfl, rfl, Nat.le_of_ble_eq_true rfl, Nat.le_of_ble_eq_true rfl⟩ rfl rfl hl.1 (Nat.le_of_ble_eq_true rfl) d_Law_law_797 ⟨by omega, by omega⟩ (fun H locs w hw hB => ?_)
      subst hw
      have hB : bd D classes s.heap.size s.heap.size (wB G Gm cI cL cQ o σ2 π ((m_Mo_copy τ (xs (6 * n + 1))).2) (vp_updL f 0 v.toInt64)) s H locs := hB
      refine lv_istore (lv' := [(6, .int ((m_Mo_copy τ (xs (6 * n + 1))).1)), (5, .int 0), (0, .ref b), (1, .ref (G 0 0)), (2, .ref (Gm 4 0)), (3, .ref o), (4, .int (nI (6 * n)))]) hx hb d_Law_law_800 hl (by decide) rfl (fun ls hl => ?_)
      refine lv_aload_n hx hb d_Law_law_802 rfl (lv_at hl 4 rfl) ?_
      refine kV hC hB _ lkM_o rfl (c_Mo_thrown ((m_Mo_copy τ (xs (6 * n + 1))).2) rfl) allw_ok mf_Mo_thrown kw_950 kw_951 kw_949 ⟨rfl, rfl, Nat.le_of_ble_eq_true rfl, Nat.le_of_ble_eq_true rfl⟩ rfl rfl hl.1 (Nat.le_of_ble_eq_true rfl) d_Law_law_803 ⟨by omega, by omega⟩ (roK fun H locs hB => ?_)
      refine lv_iload hx hb d_Law_law_806 (lv_at hl 1 rfl) ?_
      refine lv_icmp_eq (tgt := 813) hx hb d_Law_law_808 (by decide) (fun c_1 => ?_) (fun c_1 => absurd h0 c_1)
      refine lv_iload hx hb d_Law_law_813 (lv_at hl 1 rfl) ?_
      refine lv_if_ne (tgt := 830) hx hb d_Law_law_815 (by decide) (fun c_2 => absurd rfl c_2) (fun c_2 => ?_)
      refine lv_aload_n hx hb d_Law_law_818 rfl (lv_at hl 5 rfl) ?_
      refine lv_iconst (v := 0) hx hb d_Law_law_819 (by decide) ?_
      refine va_lald hx hb hC.2.2.2.2.2.2.2.1.1 hB.1 12 1 wB_out rfl vin0 d_Law_law_820 ?_
      refine lv_iload hx hb d_Law_law_821 (lv_at hl 0 rfl) ?_
      refine lv_i2l hx hb d_Law_law_823 rfl ?_
      refine W.lcmp hx hb d_Law_law_824 ?_
      refine lv_if_eq (tgt := 830) hx hb d_Law_law_825 (by decide) (fun c_4 => ?_) (fun c_4 => absurd (cmp0.mpr (congrArg Int32.toInt64 hv)) c_4)
      refine lv_goto (tgt := 1662) hx hb d_Law_law_830 (by decide) ?_
      exact hN _ π ((m_Mo_copy τ (xs (6 * n + 1))).2) _ _ _ _ _ ls hπ hRL (cst_cp hc hcp.1 (by omega) (by omega)) (bd_perm hB wAB.symm) (lv_sub hl [2, 3, 4, 5, 6] rfl)
set_option maxHeartbeats 1000000 in
set_option maxRecDepth 100000 in
theorem lw_rule (hK : LC D cI cL cQ p l s m meth c b L xs) {n : Nat} (hn : 6 * n + 6 ≤ L) (hN : NX D G Gm cI cL cQ o p l e s m below meth c b n) {σ : SC} {π : PJ} {τ : SM} {f : Nat → Int64} {H : Heap} {locs : List Loc} {cells slots : Nat} {ls : Array Slot} (hπ : RJ π σ) (hR : RL n σ τ) (hc : cst n σ cells slots) (hB : bd D classes s.heap.size s.heap.size (wA G Gm cI cL cQ o σ π τ f) s H locs) (hl : lv_has ls 8 [(0, .ref b), (1, .ref (G 0 0)), (2, .ref (Gm 4 0)), (3, .ref o), (4, .int (nI (6 * n)))]) : WL p l e s m below meth c b H locs cells slots (F0 m 833 ls []) := by
  obtain ⟨hC, hSW, htl, hX, hbl, hL⟩ := id hK
  have hx := hC.1
  have hb := hC.2.1
  obtain ⟨hr1, hr2⟩ := cst_room hc hR (by omega)
  obtain ⟨ok1, ok2⟩ := op_rule (c := n) (by omega) hR (xs (6 * n + 1))
  rcases ok2 with ⟨hM, h0, hRL⟩ | ⟨v, σ2, hM, h0, hv, hRL, hns⟩
  · refine lv_aload_n hx hb d_Law_law_833 rfl (lv_at hl 1 rfl) ?_
    refine rdj hK hn hB.2.2 (lv_at hl 0 rfl) (lv_at hl 4 rfl) (j := 1) (by decide) d_Law_law_834 d_Law_law_835 d_Law_law_837 (by decide) d_Law_law_838 d_Law_law_839 ?_
    refine lv_aload_n hx hb d_Law_law_840 rfl (lv_at hl 3 rfl) ?_
    refine kSW hC hSW (Nat.le_refl _) hB (ht_rule htl σ π hπ o f (xs (6 * n + 1)) hM) allw_ok kw_707 kw_0 ⟨by decide, by decide⟩ (n := 3) (by decide +kernel) kw_706 kw_705 ⟨rfl, rfl, Nat.le_of_ble_eq_true rfl, Nat.le_of_ble_eq_true rfl⟩ rfl rfl hl.1 (Nat.le_of_ble_eq_true rfl) d_Law_law_841 ⟨by omega, by omega⟩ (fun H locs w hw hB => ?_)
    obtain ⟨π, hπ, rfl⟩ := hw
    have hB : bd D classes s.heap.size s.heap.size (wB G Gm cI cL cQ o σ π τ f) s H locs := bd_perm hB wAB
    refine lv_istore (lv' := [(5, .int 1), (0, .ref b), (1, .ref (G 0 0)), (2, .ref (Gm 4 0)), (3, .ref o), (4, .int (nI (6 * n)))]) hx hb d_Law_law_844 hl (by decide) rfl (fun ls hl => ?_)
    refine lv_aload_n hx hb d_Law_law_846 rfl (lv_at hl 3 rfl) ?_
    refine rdj hK hn hB.2.2 (lv_at hl 1 rfl) (lv_at hl 5 rfl) (j := 1) (by decide) d_Law_law_847 d_Law_law_848 d_Law_law_850 (by decide) d_Law_law_851 d_Law_law_852 ?_
    refine kV hC hB _ lkM_o rfl (c_Mo_rule τ (xs (6 * n + 1)) (eq_true ok1)) allw_ok mf_Mo_rule kw_1090 kw_1091 kw_1089 ⟨rfl, rfl, Nat.le_of_ble_eq_true rfl, Nat.le_of_ble_eq_true rfl⟩ rfl rfl hl.1 (Nat.le_of_ble_eq_true rfl) d_Law_law_853 ⟨by omega, by omega⟩ (fun H locs w hw hB => ?_)
    subst hw
    have hB : bd D classes s.heap.size s.heap.size (wB G Gm cI cL cQ o σ π ((m_Mo_rule τ (xs (6 * n + 1))).2) f) s H locs := hB
    refine lv_istore (lv' := [(6, .int (bi ((m_Mo_rule τ (xs (6 * n + 1))).1))), (5, .int 1), (0, .ref b), (1, .ref (G 0 0)), (2, .ref (Gm 4 0)), (3, .ref o), (4, .int (nI (6 * n)))]) hx hb d_Law_law_856 hl (by decide) rfl (fun ls hl => ?_)
    refine lv_aload_n hx hb d_Law_law_858 rfl (lv_at hl 4 rfl) ?_
    refine kV hC hB _ lkM_o rfl (c_Mo_thrown ((m_Mo_rule τ (xs (6 * n + 1))).2) rfl) allw_ok mf_Mo_thrown kw_950 kw_951 kw_949 ⟨rfl, rfl, Nat.le_of_ble_eq_true rfl, Nat.le_of_ble_eq_true rfl⟩ rfl rfl hl.1 (Nat.le_of_ble_eq_true rfl) d_Law_law_859 ⟨by omega, by omega⟩ (roK fun H locs hB => ?_)
    refine lv_iload hx hb d_Law_law_862 (lv_at hl 1 rfl) ?_
    refine lv_icmp_eq (tgt := 869) hx hb d_Law_law_864 (by decide) (fun c_1 => ?_) (fun c_1 => absurd h0 c_1)
    refine lv_iload hx hb d_Law_law_869 (lv_at hl 1 rfl) ?_
    refine lv_if_ne (tgt := 893) hx hb d_Law_law_871 (by decide) (fun c_2 => ?_) (fun c_2 => absurd c_2 (by decide))
    refine lv_goto (tgt := 1662) hx hb d_Law_law_893 (by decide) ?_
    exact hN _ π ((m_Mo_rule τ (xs (6 * n + 1))).2) _ _ _ _ _ ls hπ hRL (cst_up hc (Nat.le_succ _) (by omega) (by omega)) (bd_perm hB wAB.symm) (lv_sub hl [2, 3, 4, 5, 6] rfl)
  · rcases v with _ | _
    · refine lv_aload_n hx hb d_Law_law_833 rfl (lv_at hl 1 rfl) ?_
      refine rdj hK hn hB.2.2 (lv_at hl 0 rfl) (lv_at hl 4 rfl) (j := 1) (by decide) d_Law_law_834 d_Law_law_835 d_Law_law_837 (by decide) d_Law_law_838 d_Law_law_839 ?_
      refine lv_aload_n hx hb d_Law_law_840 rfl (lv_at hl 3 rfl) ?_
      refine kSW hC hSW (Nat.le_refl _) hB (h_rule σ π hπ o f (xs (6 * n + 1)) (false, σ2) hM) allw_ok kw_707 kw_0 ⟨by decide, by decide⟩ (n := 3) (by decide +kernel) kw_706 kw_705 ⟨rfl, rfl, Nat.le_of_ble_eq_true rfl, Nat.le_of_ble_eq_true rfl⟩ rfl rfl hl.1 (Nat.le_of_ble_eq_true rfl) d_Law_law_841 ⟨by omega, by omega⟩ (fun H locs w hw hB => ?_)
      obtain ⟨π, hπ, rfl⟩ := hw
      have hB : bd D classes s.heap.size s.heap.size (wB G Gm cI cL cQ o σ2 π τ (vp_updL f 0 (lb false))) s H locs := bd_perm hB wAB
      refine lv_istore (lv' := [(5, .int 0), (0, .ref b), (1, .ref (G 0 0)), (2, .ref (Gm 4 0)), (3, .ref o), (4, .int (nI (6 * n)))]) hx hb d_Law_law_844 hl (by decide) rfl (fun ls hl => ?_)
      refine lv_aload_n hx hb d_Law_law_846 rfl (lv_at hl 3 rfl) ?_
      refine rdj hK hn hB.2.2 (lv_at hl 1 rfl) (lv_at hl 5 rfl) (j := 1) (by decide) d_Law_law_847 d_Law_law_848 d_Law_law_850 (by decide) d_Law_law_851 d_Law_law_852 ?_
      refine kV hC hB _ lkM_o rfl (c_Mo_rule τ (xs (6 * n + 1)) (eq_true ok1)) allw_ok mf_Mo_rule kw_1090 kw_1091 kw_1089 ⟨rfl, rfl, Nat.le_of_ble_eq_true rfl, Nat.le_of_ble_eq_true rfl⟩ rfl rfl hl.1 (Nat.le_of_ble_eq_true rfl) d_Law_law_853 ⟨by omega, by omega⟩ (fun H locs w hw hB => ?_)
      subst hw
      have hB : bd D classes s.heap.size s.heap.size (wB G Gm cI cL cQ o σ2 π ((m_Mo_rule τ (xs (6 * n + 1))).2) (vp_updL f 0 (lb false))) s H locs := hB
      refine lv_istore (lv' := [(6, .int (bi ((m_Mo_rule τ (xs (6 * n + 1))).1))), (5, .int 0), (0, .ref b), (1, .ref (G 0 0)), (2, .ref (Gm 4 0)), (3, .ref o), (4, .int (nI (6 * n)))]) hx hb d_Law_law_856 hl (by decide) rfl (fun ls hl => ?_)
      refine lv_aload_n hx hb d_Law_law_858 rfl (lv_at hl 4 rfl) ?_
      refine kV hC hB _ lkM_o rfl (c_Mo_thrown ((m_Mo_rule τ (xs (6 * n + 1))).2) rfl) allw_ok mf_Mo_thrown kw_950 kw_951 kw_949 ⟨rfl, rfl, Nat.le_of_ble_eq_true rfl, Nat.le_of_ble_eq_true rfl⟩ rfl rfl hl.1 (Nat.le_of_ble_eq_true rfl) d_Law_law_859 ⟨by omega, by omega⟩ (roK fun H locs hB => ?_)
      refine lv_iload hx hb d_Law_law_862 (lv_at hl 1 rfl) ?_
      refine lv_icmp_eq (tgt := 869) hx hb d_Law_law_864 (by decide) (fun c_1 => ?_) (fun c_1 => absurd h0 c_1)
      refine lv_iload hx hb d_Law_law_869 (lv_at hl 1 rfl) ?_
      refine lv_if_ne (tgt := 893) hx hb d_Law_law_871 (by decide) (fun c_2 => absurd rfl c_2) (fun c_2 => ?_)
      refine lv_aload_n hx hb d_Law_law_874 rfl (lv_at hl 5 rfl) ?_
      refine lv_iconst (v := 0) hx hb d_Law_law_875 (by decide) ?_
      refine va_lald hx hb hC.2.2.2.2.2.2.2.1.1 hB.1 12 1 wB_out rfl vin0 d_Law_law_876 ?_
      refine lv_iload hx hb d_Law_law_877 (lv_at hl 0 rfl) ?_
      refine lv_if_eq (tgt := 886) hx hb d_Law_law_879 (by decide) (fun c_3 => ?_) (fun c_3 => absurd (by rw [← hv]; rfl) c_3)
      refine lv_lconst (v := 0) hx hb d_Law_law_886 (by decide) ?_
      refine W.lcmp hx hb d_Law_law_887 ?_
      refine lv_if_eq (tgt := 893) hx hb d_Law_law_888 (by decide) (fun c_4 => ?_) (fun c_4 => absurd (cmp0.mpr rfl) c_4)
      refine lv_goto (tgt := 1662) hx hb d_Law_law_893 (by decide) ?_
      exact hN _ π ((m_Mo_rule τ (xs (6 * n + 1))).2) _ _ _ _ _ ls hπ hRL (cst_up hc hns (by omega) (by omega)) (bd_perm hB wAB.symm) (lv_sub hl [2, 3, 4, 5, 6] rfl)
    · refine lv_aload_n hx hb d_Law_law_833 rfl (lv_at hl 1 rfl) ?_
      refine rdj hK hn hB.2.2 (lv_at hl 0 rfl) (lv_at hl 4 rfl) (j := 1) (by decide) d_Law_law_834 d_Law_law_835 d_Law_law_837 (by decide) d_Law_law_838 d_Law_law_839 ?_
      refine lv_aload_n hx hb d_Law_law_840 rfl (lv_at hl 3 rfl) ?_
      refine kSW hC hSW (Nat.le_refl _) hB (h_rule σ π hπ o f (xs (6 * n + 1)) (true, σ2) hM) allw_ok kw_707 kw_0 ⟨by decide, by decide⟩ (n := 3) (by decide +kernel) kw_706 kw_705 ⟨rfl, rfl, Nat.le_of_ble_eq_true rfl, Nat.le_of_ble_eq_true rfl⟩ rfl rfl hl.1 (Nat.le_of_ble_eq_true rfl) d_Law_law_841 ⟨by omega, by omega⟩ (fun H locs w hw hB => ?_)
      obtain ⟨π, hπ, rfl⟩ := hw
      have hB : bd D classes s.heap.size s.heap.size (wB G Gm cI cL cQ o σ2 π τ (vp_updL f 0 (lb true))) s H locs := bd_perm hB wAB
      refine lv_istore (lv' := [(5, .int 0), (0, .ref b), (1, .ref (G 0 0)), (2, .ref (Gm 4 0)), (3, .ref o), (4, .int (nI (6 * n)))]) hx hb d_Law_law_844 hl (by decide) rfl (fun ls hl => ?_)
      refine lv_aload_n hx hb d_Law_law_846 rfl (lv_at hl 3 rfl) ?_
      refine rdj hK hn hB.2.2 (lv_at hl 1 rfl) (lv_at hl 5 rfl) (j := 1) (by decide) d_Law_law_847 d_Law_law_848 d_Law_law_850 (by decide) d_Law_law_851 d_Law_law_852 ?_
      refine kV hC hB _ lkM_o rfl (c_Mo_rule τ (xs (6 * n + 1)) (eq_true ok1)) allw_ok mf_Mo_rule kw_1090 kw_1091 kw_1089 ⟨rfl, rfl, Nat.le_of_ble_eq_true rfl, Nat.le_of_ble_eq_true rfl⟩ rfl rfl hl.1 (Nat.le_of_ble_eq_true rfl) d_Law_law_853 ⟨by omega, by omega⟩ (fun H locs w hw hB => ?_)
      subst hw
      have hB : bd D classes s.heap.size s.heap.size (wB G Gm cI cL cQ o σ2 π ((m_Mo_rule τ (xs (6 * n + 1))).2) (vp_updL f 0 (lb true))) s H locs := hB
      refine lv_istore (lv' := [(6, .int (bi ((m_Mo_rule τ (xs (6 * n + 1))).1))), (5, .int 0), (0, .ref b), (1, .ref (G 0 0)), (2, .ref (Gm 4 0)), (3, .ref o), (4, .int (nI (6 * n)))]) hx hb d_Law_law_856 hl (by decide) rfl (fun ls hl => ?_)
      refine lv_aload_n hx hb d_Law_law_858 rfl (lv_at hl 4 rfl) ?_
      refine kV hC hB _ lkM_o rfl (c_Mo_thrown ((m_Mo_rule τ (xs (6 * n + 1))).2) rfl) allw_ok mf_Mo_thrown kw_950 kw_951 kw_949 ⟨rfl, rfl, Nat.le_of_ble_eq_true rfl, Nat.le_of_ble_eq_true rfl⟩ rfl rfl hl.1 (Nat.le_of_ble_eq_true rfl) d_Law_law_859 ⟨by omega, by omega⟩ (roK fun H locs hB => ?_)
      refine lv_iload hx hb d_Law_law_862 (lv_at hl 1 rfl) ?_
      refine lv_icmp_eq (tgt := 869) hx hb d_Law_law_864 (by decide) (fun c_1 => ?_) (fun c_1 => absurd h0 c_1)
      refine lv_iload hx hb d_Law_law_869 (lv_at hl 1 rfl) ?_
      refine lv_if_ne (tgt := 893) hx hb d_Law_law_871 (by decide) (fun c_2 => absurd rfl c_2) (fun c_2 => ?_)
      refine lv_aload_n hx hb d_Law_law_874 rfl (lv_at hl 5 rfl) ?_
      refine lv_iconst (v := 0) hx hb d_Law_law_875 (by decide) ?_
      refine va_lald hx hb hC.2.2.2.2.2.2.2.1.1 hB.1 12 1 wB_out rfl vin0 d_Law_law_876 ?_
      refine lv_iload hx hb d_Law_law_877 (lv_at hl 0 rfl) ?_
      refine lv_if_eq (tgt := 886) hx hb d_Law_law_879 (by decide) (fun c_3 => absurd c_3 (by rw [← hv]; decide)) (fun c_3 => ?_)
      refine lv_lconst (v := 1) hx hb d_Law_law_882 (by decide) ?_
      refine lv_goto (tgt := 887) hx hb d_Law_law_883 (by decide) ?_
      refine W.lcmp hx hb d_Law_law_887 ?_
      refine lv_if_eq (tgt := 893) hx hb d_Law_law_888 (by decide) (fun c_4 => ?_) (fun c_4 => absurd (cmp0.mpr rfl) c_4)
      refine lv_goto (tgt := 1662) hx hb d_Law_law_893 (by decide) ?_
      exact hN _ π ((m_Mo_rule τ (xs (6 * n + 1))).2) _ _ _ _ _ ls hπ hRL (cst_up hc hns (by omega) (by omega)) (bd_perm hB wAB.symm) (lv_sub hl [2, 3, 4, 5, 6] rfl)
set_option maxHeartbeats 1000000 in
set_option maxRecDepth 100000 in
theorem lw_variant (hK : LC D cI cL cQ p l s m meth c b L xs) {n : Nat} (hn : 6 * n + 6 ≤ L) (hN : NX D G Gm cI cL cQ o p l e s m below meth c b n) {σ : SC} {π : PJ} {τ : SM} {f : Nat → Int64} {H : Heap} {locs : List Loc} {cells slots : Nat} {ls : Array Slot} (hπ : RJ π σ) (hR : RL n σ τ) (hc : cst n σ cells slots) (hB : bd D classes s.heap.size s.heap.size (wA G Gm cI cL cQ o σ π τ f) s H locs) (hl : lv_has ls 8 [(0, .ref b), (1, .ref (G 0 0)), (2, .ref (Gm 4 0)), (3, .ref o), (4, .int (nI (6 * n)))]) : WL p l e s m below meth c b H locs cells slots (F0 m 896 ls []) := by
  obtain ⟨hC, hSW, htl, hX, hbl, hL⟩ := id hK
  have hx := hC.1
  have hb := hC.2.1
  obtain ⟨hr1, hr2⟩ := cst_room hc hR (by omega)
  obtain ⟨ok1, ok2⟩ := op_variant (c := n) (by omega) hR (xs (6 * n + 1))
  rcases ok2 with ⟨hM, h0, hRL⟩ | ⟨v, σ2, hM, h0, hv, hRL, hns⟩
  · refine lv_aload_n hx hb d_Law_law_896 rfl (lv_at hl 1 rfl) ?_
    refine rdj hK hn hB.2.2 (lv_at hl 0 rfl) (lv_at hl 4 rfl) (j := 1) (by decide) d_Law_law_897 d_Law_law_898 d_Law_law_900 (by decide) d_Law_law_901 d_Law_law_902 ?_
    refine lv_aload_n hx hb d_Law_law_903 rfl (lv_at hl 3 rfl) ?_
    refine kSW hC hSW (Nat.le_refl _) hB (ht_variant htl σ π hπ o f (xs (6 * n + 1)) hM) allw_ok kw_717 kw_0 ⟨by decide, by decide⟩ (n := 3) (by decide +kernel) kw_716 kw_715 ⟨rfl, rfl, Nat.le_of_ble_eq_true rfl, Nat.le_of_ble_eq_true rfl⟩ rfl rfl hl.1 (Nat.le_of_ble_eq_true rfl) d_Law_law_904 ⟨by omega, by omega⟩ (fun H locs w hw hB => ?_)
    obtain ⟨π, hπ, rfl⟩ := hw
    have hB : bd D classes s.heap.size s.heap.size (wB G Gm cI cL cQ o σ π τ f) s H locs := bd_perm hB wAB
    refine lv_istore (lv' := [(5, .int 1), (0, .ref b), (1, .ref (G 0 0)), (2, .ref (Gm 4 0)), (3, .ref o), (4, .int (nI (6 * n)))]) hx hb d_Law_law_907 hl (by decide) rfl (fun ls hl => ?_)
    refine lv_aload_n hx hb d_Law_law_909 rfl (lv_at hl 3 rfl) ?_
    refine rdj hK hn hB.2.2 (lv_at hl 1 rfl) (lv_at hl 5 rfl) (j := 1) (by decide) d_Law_law_910 d_Law_law_911 d_Law_law_913 (by decide) d_Law_law_914 d_Law_law_915 ?_
    refine kV hC hB _ lkM_o rfl (c_Mo_variant τ (xs (6 * n + 1)) (eq_true ok1)) allw_ok mf_Mo_variant kw_1094 kw_1095 kw_1093 ⟨rfl, rfl, Nat.le_of_ble_eq_true rfl, Nat.le_of_ble_eq_true rfl⟩ rfl rfl hl.1 (Nat.le_of_ble_eq_true rfl) d_Law_law_916 ⟨by omega, by omega⟩ (fun H locs w hw hB => ?_)
    subst hw
    have hB : bd D classes s.heap.size s.heap.size (wB G Gm cI cL cQ o σ π ((m_Mo_variant τ (xs (6 * n + 1))).2) f) s H locs := hB
    refine lv_istore (lv' := [(6, .int ((m_Mo_variant τ (xs (6 * n + 1))).1)), (5, .int 1), (0, .ref b), (1, .ref (G 0 0)), (2, .ref (Gm 4 0)), (3, .ref o), (4, .int (nI (6 * n)))]) hx hb d_Law_law_919 hl (by decide) rfl (fun ls hl => ?_)
    refine lv_aload_n hx hb d_Law_law_921 rfl (lv_at hl 4 rfl) ?_
    refine kV hC hB _ lkM_o rfl (c_Mo_thrown ((m_Mo_variant τ (xs (6 * n + 1))).2) rfl) allw_ok mf_Mo_thrown kw_950 kw_951 kw_949 ⟨rfl, rfl, Nat.le_of_ble_eq_true rfl, Nat.le_of_ble_eq_true rfl⟩ rfl rfl hl.1 (Nat.le_of_ble_eq_true rfl) d_Law_law_922 ⟨by omega, by omega⟩ (roK fun H locs hB => ?_)
    refine lv_iload hx hb d_Law_law_925 (lv_at hl 1 rfl) ?_
    refine lv_icmp_eq (tgt := 932) hx hb d_Law_law_927 (by decide) (fun c_1 => ?_) (fun c_1 => absurd h0 c_1)
    refine lv_iload hx hb d_Law_law_932 (lv_at hl 1 rfl) ?_
    refine lv_if_ne (tgt := 949) hx hb d_Law_law_934 (by decide) (fun c_2 => ?_) (fun c_2 => absurd c_2 (by decide))
    refine lv_goto (tgt := 1662) hx hb d_Law_law_949 (by decide) ?_
    exact hN _ π ((m_Mo_variant τ (xs (6 * n + 1))).2) _ _ _ _ _ ls hπ hRL (cst_up hc (Nat.le_succ _) (by omega) (by omega)) (bd_perm hB wAB.symm) (lv_sub hl [2, 3, 4, 5, 6] rfl)
  · refine lv_aload_n hx hb d_Law_law_896 rfl (lv_at hl 1 rfl) ?_
    refine rdj hK hn hB.2.2 (lv_at hl 0 rfl) (lv_at hl 4 rfl) (j := 1) (by decide) d_Law_law_897 d_Law_law_898 d_Law_law_900 (by decide) d_Law_law_901 d_Law_law_902 ?_
    refine lv_aload_n hx hb d_Law_law_903 rfl (lv_at hl 3 rfl) ?_
    refine kSW hC hSW (Nat.le_refl _) hB (h_variant σ π hπ o f (xs (6 * n + 1)) (v, σ2) hM) allw_ok kw_717 kw_0 ⟨by decide, by decide⟩ (n := 3) (by decide +kernel) kw_716 kw_715 ⟨rfl, rfl, Nat.le_of_ble_eq_true rfl, Nat.le_of_ble_eq_true rfl⟩ rfl rfl hl.1 (Nat.le_of_ble_eq_true rfl) d_Law_law_904 ⟨by omega, by omega⟩ (fun H locs w hw hB => ?_)
    obtain ⟨π, hπ, rfl⟩ := hw
    have hB : bd D classes s.heap.size s.heap.size (wB G Gm cI cL cQ o σ2 π τ (vp_updL f 0 v.toInt64)) s H locs := bd_perm hB wAB
    refine lv_istore (lv' := [(5, .int 0), (0, .ref b), (1, .ref (G 0 0)), (2, .ref (Gm 4 0)), (3, .ref o), (4, .int (nI (6 * n)))]) hx hb d_Law_law_907 hl (by decide) rfl (fun ls hl => ?_)
    refine lv_aload_n hx hb d_Law_law_909 rfl (lv_at hl 3 rfl) ?_
    refine rdj hK hn hB.2.2 (lv_at hl 1 rfl) (lv_at hl 5 rfl) (j := 1) (by decide) d_Law_law_910 d_Law_law_911 d_Law_law_913 (by decide) d_Law_law_914 d_Law_law_915 ?_
    refine kV hC hB _ lkM_o rfl (c_Mo_variant τ (xs (6 * n + 1)) (eq_true ok1)) allw_ok mf_Mo_variant kw_1094 kw_1095 kw_1093 ⟨rfl, rfl, Nat.le_of_ble_eq_true rfl, Nat.le_of_ble_eq_true rfl⟩ rfl rfl hl.1 (Nat.le_of_ble_eq_true rfl) d_Law_law_916 ⟨by omega, by omega⟩ (fun H locs w hw hB => ?_)
    subst hw
    have hB : bd D classes s.heap.size s.heap.size (wB G Gm cI cL cQ o σ2 π ((m_Mo_variant τ (xs (6 * n + 1))).2) (vp_updL f 0 v.toInt64)) s H locs := hB
    refine lv_istore (lv' := [(6, .int ((m_Mo_variant τ (xs (6 * n + 1))).1)), (5, .int 0), (0, .ref b), (1, .ref (G 0 0)), (2, .ref (Gm 4 0)), (3, .ref o), (4, .int (nI (6 * n)))]) hx hb d_Law_law_919 hl (by decide) rfl (fun ls hl => ?_)
    refine lv_aload_n hx hb d_Law_law_921 rfl (lv_at hl 4 rfl) ?_
    refine kV hC hB _ lkM_o rfl (c_Mo_thrown ((m_Mo_variant τ (xs (6 * n + 1))).2) rfl) allw_ok mf_Mo_thrown kw_950 kw_951 kw_949 ⟨rfl, rfl, Nat.le_of_ble_eq_true rfl, Nat.le_of_ble_eq_true rfl⟩ rfl rfl hl.1 (Nat.le_of_ble_eq_true rfl) d_Law_law_922 ⟨by omega, by omega⟩ (roK fun H locs hB => ?_)
    refine lv_iload hx hb d_Law_law_925 (lv_at hl 1 rfl) ?_
    refine lv_icmp_eq (tgt := 932) hx hb d_Law_law_927 (by decide) (fun c_1 => ?_) (fun c_1 => absurd h0 c_1)
    refine lv_iload hx hb d_Law_law_932 (lv_at hl 1 rfl) ?_
    refine lv_if_ne (tgt := 949) hx hb d_Law_law_934 (by decide) (fun c_2 => absurd rfl c_2) (fun c_2 => ?_)
    refine lv_aload_n hx hb d_Law_law_937 rfl (lv_at hl 5 rfl) ?_
    refine lv_iconst (v := 0) hx hb d_Law_law_938 (by decide) ?_
    refine va_lald hx hb hC.2.2.2.2.2.2.2.1.1 hB.1 12 1 wB_out rfl vin0 d_Law_law_939 ?_
    refine lv_iload hx hb d_Law_law_940 (lv_at hl 0 rfl) ?_
    refine lv_i2l hx hb d_Law_law_942 rfl ?_
    refine W.lcmp hx hb d_Law_law_943 ?_
    refine lv_if_eq (tgt := 949) hx hb d_Law_law_944 (by decide) (fun c_4 => ?_) (fun c_4 => absurd (cmp0.mpr (congrArg Int32.toInt64 hv)) c_4)
    refine lv_goto (tgt := 1662) hx hb d_Law_law_949 (by decide) ?_
    exact hN _ π ((m_Mo_variant τ (xs (6 * n + 1))).2) _ _ _ _ _ ls hπ hRL (cst_up hc hns (by omega) (by omega)) (bd_perm hB wAB.symm) (lv_sub hl [2, 3, 4, 5, 6] rfl)
set_option maxHeartbeats 1000000 in
set_option maxRecDepth 100000 in
theorem lw_value (hK : LC D cI cL cQ p l s m meth c b L xs) {n : Nat} (hn : 6 * n + 6 ≤ L) (hN : NX D G Gm cI cL cQ o p l e s m below meth c b n) {σ : SC} {π : PJ} {τ : SM} {f : Nat → Int64} {H : Heap} {locs : List Loc} {cells slots : Nat} {ls : Array Slot} (hπ : RJ π σ) (hR : RL n σ τ) (hc : cst n σ cells slots) (hB : bd D classes s.heap.size s.heap.size (wA G Gm cI cL cQ o σ π τ f) s H locs) (hl : lv_has ls 8 [(0, .ref b), (1, .ref (G 0 0)), (2, .ref (Gm 4 0)), (3, .ref o), (4, .int (nI (6 * n)))]) : WL p l e s m below meth c b H locs cells slots (F0 m 952 ls []) := by
  obtain ⟨hC, hSW, htl, hX, hbl, hL⟩ := id hK
  have hx := hC.1
  have hb := hC.2.1
  obtain ⟨hr1, hr2⟩ := cst_room hc hR (by omega)
  obtain ⟨ok1, ok2⟩ := op_value (c := n) (by omega) hR (xs (6 * n + 1)) (xs (6 * n + 2)) (xs (6 * n + 3)) (((xs (6 * n + 4)).toInt64 <<< ((32 : Int32).toInt64 &&& 63) ||| (xs (6 * n + 5)).toInt64 &&& 4294967295))
  rcases ok2 with ⟨hM, h0, hRL⟩ | ⟨v, σ2, hM, h0, hv, hRL, hns⟩
  · refine lv_aload_n hx hb d_Law_law_952 rfl (lv_at hl 1 rfl) ?_
    refine rdj hK hn hB.2.2 (lv_at hl 0 rfl) (lv_at hl 4 rfl) (j := 1) (by decide) d_Law_law_953 d_Law_law_954 d_Law_law_956 (by decide) d_Law_law_957 d_Law_law_958 ?_
    refine rdj hK hn hB.2.2 (lv_at hl 0 rfl) (lv_at hl 4 rfl) (j := 2) (by decide) d_Law_law_959 d_Law_law_960 d_Law_law_962 (by decide) d_Law_law_963 d_Law_law_964 ?_
    refine rdj hK hn hB.2.2 (lv_at hl 0 rfl) (lv_at hl 4 rfl) (j := 3) (by decide) d_Law_law_965 d_Law_law_966 d_Law_law_968 (by decide) d_Law_law_969 d_Law_law_970 ?_
    refine rdj hK hn hB.2.2 (lv_at hl 0 rfl) (lv_at hl 4 rfl) (j := 4) (by decide) d_Law_law_971 d_Law_law_972 d_Law_law_974 (by decide) d_Law_law_975 d_Law_law_976 ?_
    refine lv_i2l hx hb d_Law_law_977 rfl ?_
    refine lv_bipush (v := 32) hx hb d_Law_law_978 (by decide) ?_
    refine lv_lshl hx hb d_Law_law_980 rfl ?_
    refine rdj hK hn hB.2.2 (lv_at hl 0 rfl) (lv_at hl 4 rfl) (j := 5) (by decide) d_Law_law_981 d_Law_law_982 d_Law_law_984 (by decide) d_Law_law_985 d_Law_law_986 ?_
    refine lv_i2l hx hb d_Law_law_987 rfl ?_
    refine lv_ldc2 (v := 4294967295) hx hb hC.2.2.2.2.1 (hC.2.2.2.2.2.1 _ kw_1173) d_Law_law_988 ?_
    refine lv_land hx hb d_Law_law_991 ?_
    refine lv_lor hx hb d_Law_law_992 ?_
    refine lv_aload_n hx hb d_Law_law_993 rfl (lv_at hl 3 rfl) ?_
    refine kSW hC hSW (Nat.le_refl _) hB (ht_value htl σ π hπ o f (xs (6 * n + 1)) (xs (6 * n + 2)) (xs (6 * n + 3)) (((xs (6 * n + 4)).toInt64 <<< ((32 : Int32).toInt64 &&& 63) ||| (xs (6 * n + 5)).toInt64 &&& 4294967295)) hM) allw_ok kw_748 kw_0 ⟨by decide, by decide⟩ (n := 6) (by decide +kernel) kw_747 kw_746 ⟨rfl, rfl, Nat.le_of_ble_eq_true rfl, Nat.le_of_ble_eq_true rfl⟩ rfl rfl hl.1 (Nat.le_of_ble_eq_true rfl) d_Law_law_994 ⟨by omega, by omega⟩ (fun H locs w hw hB => ?_)
    obtain ⟨π, hπ, rfl⟩ := hw
    have hB : bd D classes s.heap.size s.heap.size (wB G Gm cI cL cQ o σ π τ f) s H locs := bd_perm hB wAB
    refine lv_istore (lv' := [(5, .int 1), (0, .ref b), (1, .ref (G 0 0)), (2, .ref (Gm 4 0)), (3, .ref o), (4, .int (nI (6 * n)))]) hx hb d_Law_law_997 hl (by decide) rfl (fun ls hl => ?_)
    refine lv_aload_n hx hb d_Law_law_999 rfl (lv_at hl 3 rfl) ?_
    refine rdj hK hn hB.2.2 (lv_at hl 1 rfl) (lv_at hl 5 rfl) (j := 1) (by decide) d_Law_law_1000 d_Law_law_1001 d_Law_law_1003 (by decide) d_Law_law_1004 d_Law_law_1005 ?_
    refine rdj hK hn hB.2.2 (lv_at hl 1 rfl) (lv_at hl 5 rfl) (j := 2) (by decide) d_Law_law_1006 d_Law_law_1007 d_Law_law_1009 (by decide) d_Law_law_1010 d_Law_law_1011 ?_
    refine rdj hK hn hB.2.2 (lv_at hl 1 rfl) (lv_at hl 5 rfl) (j := 3) (by decide) d_Law_law_1012 d_Law_law_1013 d_Law_law_1015 (by decide) d_Law_law_1016 d_Law_law_1017 ?_
    refine rdj hK hn hB.2.2 (lv_at hl 1 rfl) (lv_at hl 5 rfl) (j := 4) (by decide) d_Law_law_1018 d_Law_law_1019 d_Law_law_1021 (by decide) d_Law_law_1022 d_Law_law_1023 ?_
    refine lv_i2l hx hb d_Law_law_1024 rfl ?_
    refine lv_bipush (v := 32) hx hb d_Law_law_1025 (by decide) ?_
    refine lv_lshl hx hb d_Law_law_1027 rfl ?_
    refine rdj hK hn hB.2.2 (lv_at hl 1 rfl) (lv_at hl 5 rfl) (j := 5) (by decide) d_Law_law_1028 d_Law_law_1029 d_Law_law_1031 (by decide) d_Law_law_1032 d_Law_law_1033 ?_
    refine lv_i2l hx hb d_Law_law_1034 rfl ?_
    refine lv_ldc2 (v := 4294967295) hx hb hC.2.2.2.2.1 (hC.2.2.2.2.2.1 _ kw_1173) d_Law_law_1035 ?_
    refine lv_land hx hb d_Law_law_1038 ?_
    refine lv_lor hx hb d_Law_law_1039 ?_
    refine kV hC hB _ lkM_o rfl (c_Mo_value τ (xs (6 * n + 1)) (xs (6 * n + 2)) (xs (6 * n + 3)) (((xs (6 * n + 4)).toInt64 <<< ((32 : Int32).toInt64 &&& 63) ||| (xs (6 * n + 5)).toInt64 &&& 4294967295)) (eq_true ok1)) allw_ok mf_Mo_value kw_1102 kw_1103 kw_1101 ⟨rfl, rfl, Nat.le_of_ble_eq_true rfl, Nat.le_of_ble_eq_true rfl⟩ rfl rfl hl.1 (Nat.le_of_ble_eq_true rfl) d_Law_law_1040 ⟨by omega, by omega⟩ (fun H locs w hw hB => ?_)
    subst hw
    have hB : bd D classes s.heap.size s.heap.size (wB G Gm cI cL cQ o σ π ((m_Mo_value τ (xs (6 * n + 1)) (xs (6 * n + 2)) (xs (6 * n + 3)) (((xs (6 * n + 4)).toInt64 <<< ((32 : Int32).toInt64 &&& 63) ||| (xs (6 * n + 5)).toInt64 &&& 4294967295))).2) f) s H locs := hB
    refine lv_istore (lv' := [(6, .int (bi ((m_Mo_value τ (xs (6 * n + 1)) (xs (6 * n + 2)) (xs (6 * n + 3)) (((xs (6 * n + 4)).toInt64 <<< ((32 : Int32).toInt64 &&& 63) ||| (xs (6 * n + 5)).toInt64 &&& 4294967295))).1))), (5, .int 1), (0, .ref b), (1, .ref (G 0 0)), (2, .ref (Gm 4 0)), (3, .ref o), (4, .int (nI (6 * n)))]) hx hb d_Law_law_1043 hl (by decide) rfl (fun ls hl => ?_)
    refine lv_aload_n hx hb d_Law_law_1045 rfl (lv_at hl 4 rfl) ?_
    refine kV hC hB _ lkM_o rfl (c_Mo_thrown ((m_Mo_value τ (xs (6 * n + 1)) (xs (6 * n + 2)) (xs (6 * n + 3)) (((xs (6 * n + 4)).toInt64 <<< ((32 : Int32).toInt64 &&& 63) ||| (xs (6 * n + 5)).toInt64 &&& 4294967295))).2) rfl) allw_ok mf_Mo_thrown kw_950 kw_951 kw_949 ⟨rfl, rfl, Nat.le_of_ble_eq_true rfl, Nat.le_of_ble_eq_true rfl⟩ rfl rfl hl.1 (Nat.le_of_ble_eq_true rfl) d_Law_law_1046 ⟨by omega, by omega⟩ (roK fun H locs hB => ?_)
    refine lv_iload hx hb d_Law_law_1049 (lv_at hl 1 rfl) ?_
    refine lv_icmp_eq (tgt := 1056) hx hb d_Law_law_1051 (by decide) (fun c_1 => ?_) (fun c_1 => absurd h0 c_1)
    refine lv_iload hx hb d_Law_law_1056 (lv_at hl 1 rfl) ?_
    refine lv_if_ne (tgt := 1080) hx hb d_Law_law_1058 (by decide) (fun c_2 => ?_) (fun c_2 => absurd c_2 (by decide))
    refine lv_goto (tgt := 1662) hx hb d_Law_law_1080 (by decide) ?_
    exact hN _ π ((m_Mo_value τ (xs (6 * n + 1)) (xs (6 * n + 2)) (xs (6 * n + 3)) (((xs (6 * n + 4)).toInt64 <<< ((32 : Int32).toInt64 &&& 63) ||| (xs (6 * n + 5)).toInt64 &&& 4294967295))).2) _ _ _ _ _ ls hπ hRL (cst_up hc (Nat.le_succ _) (by omega) (by omega)) (bd_perm hB wAB.symm) (lv_sub hl [2, 3, 4, 5, 6] rfl)
  · rcases v with _ | _
    · refine lv_aload_n hx hb d_Law_law_952 rfl (lv_at hl 1 rfl) ?_
      refine rdj hK hn hB.2.2 (lv_at hl 0 rfl) (lv_at hl 4 rfl) (j := 1) (by decide) d_Law_law_953 d_Law_law_954 d_Law_law_956 (by decide) d_Law_law_957 d_Law_law_958 ?_
      refine rdj hK hn hB.2.2 (lv_at hl 0 rfl) (lv_at hl 4 rfl) (j := 2) (by decide) d_Law_law_959 d_Law_law_960 d_Law_law_962 (by decide) d_Law_law_963 d_Law_law_964 ?_
      refine rdj hK hn hB.2.2 (lv_at hl 0 rfl) (lv_at hl 4 rfl) (j := 3) (by decide) d_Law_law_965 d_Law_law_966 d_Law_law_968 (by decide) d_Law_law_969 d_Law_law_970 ?_
      refine rdj hK hn hB.2.2 (lv_at hl 0 rfl) (lv_at hl 4 rfl) (j := 4) (by decide) d_Law_law_971 d_Law_law_972 d_Law_law_974 (by decide) d_Law_law_975 d_Law_law_976 ?_
      refine lv_i2l hx hb d_Law_law_977 rfl ?_
      refine lv_bipush (v := 32) hx hb d_Law_law_978 (by decide) ?_
      refine lv_lshl hx hb d_Law_law_980 rfl ?_
      refine rdj hK hn hB.2.2 (lv_at hl 0 rfl) (lv_at hl 4 rfl) (j := 5) (by decide) d_Law_law_981 d_Law_law_982 d_Law_law_984 (by decide) d_Law_law_985 d_Law_law_986 ?_
      refine lv_i2l hx hb d_Law_law_987 rfl ?_
      refine lv_ldc2 (v := 4294967295) hx hb hC.2.2.2.2.1 (hC.2.2.2.2.2.1 _ kw_1173) d_Law_law_988 ?_
      refine lv_land hx hb d_Law_law_991 ?_
      refine lv_lor hx hb d_Law_law_992 ?_
      refine lv_aload_n hx hb d_Law_law_993 rfl (lv_at hl 3 rfl) ?_
      have hv40 := vlM_value hR hM
      refine kSW hC hSW (Nat.le_refl _) hB (h_value σ π hπ o f (xs (6 * n + 1)) (xs (6 * n + 2)) (xs (6 * n + 3)) (((xs (6 * n + 4)).toInt64 <<< ((32 : Int32).toInt64 &&& 63) ||| (xs (6 * n + 5)).toInt64 &&& 4294967295)) (false, σ2) hM) allw_ok kw_748 kw_0 ⟨by decide, by decide⟩ (n := 6) (by decide +kernel) kw_747 kw_746 ⟨rfl, rfl, Nat.le_of_ble_eq_true rfl, Nat.le_of_ble_eq_true rfl⟩ rfl rfl hl.1 (Nat.le_of_ble_eq_true rfl) d_Law_law_994 ⟨by omega, by omega⟩ (fun H locs w hw hB => ?_)
      obtain ⟨π, hπ, rfl⟩ := hw
      have hB : bd D classes s.heap.size s.heap.size (wB G Gm cI cL cQ o σ2 π τ (vp_updL f 0 (lb false))) s H locs := bd_perm hB wAB
      refine lv_istore (lv' := [(5, .int 0), (0, .ref b), (1, .ref (G 0 0)), (2, .ref (Gm 4 0)), (3, .ref o), (4, .int (nI (6 * n)))]) hx hb d_Law_law_997 hl (by decide) rfl (fun ls hl => ?_)
      refine lv_aload_n hx hb d_Law_law_999 rfl (lv_at hl 3 rfl) ?_
      refine rdj hK hn hB.2.2 (lv_at hl 1 rfl) (lv_at hl 5 rfl) (j := 1) (by decide) d_Law_law_1000 d_Law_law_1001 d_Law_law_1003 (by decide) d_Law_law_1004 d_Law_law_1005 ?_
      refine rdj hK hn hB.2.2 (lv_at hl 1 rfl) (lv_at hl 5 rfl) (j := 2) (by decide) d_Law_law_1006 d_Law_law_1007 d_Law_law_1009 (by decide) d_Law_law_1010 d_Law_law_1011 ?_
      refine rdj hK hn hB.2.2 (lv_at hl 1 rfl) (lv_at hl 5 rfl) (j := 3) (by decide) d_Law_law_1012 d_Law_law_1013 d_Law_law_1015 (by decide) d_Law_law_1016 d_Law_law_1017 ?_
      refine rdj hK hn hB.2.2 (lv_at hl 1 rfl) (lv_at hl 5 rfl) (j := 4) (by decide) d_Law_law_1018 d_Law_law_1019 d_Law_law_1021 (by decide) d_Law_law_1022 d_Law_law_1023 ?_
      refine lv_i2l hx hb d_Law_law_1024 rfl ?_
      refine lv_bipush (v := 32) hx hb d_Law_law_1025 (by decide) ?_
      refine lv_lshl hx hb d_Law_law_1027 rfl ?_
      refine rdj hK hn hB.2.2 (lv_at hl 1 rfl) (lv_at hl 5 rfl) (j := 5) (by decide) d_Law_law_1028 d_Law_law_1029 d_Law_law_1031 (by decide) d_Law_law_1032 d_Law_law_1033 ?_
      refine lv_i2l hx hb d_Law_law_1034 rfl ?_
      refine lv_ldc2 (v := 4294967295) hx hb hC.2.2.2.2.1 (hC.2.2.2.2.2.1 _ kw_1173) d_Law_law_1035 ?_
      refine lv_land hx hb d_Law_law_1038 ?_
      refine lv_lor hx hb d_Law_law_1039 ?_
      refine kV hC hB _ lkM_o rfl (c_Mo_value τ (xs (6 * n + 1)) (xs (6 * n + 2)) (xs (6 * n + 3)) (((xs (6 * n + 4)).toInt64 <<< ((32 : Int32).toInt64 &&& 63) ||| (xs (6 * n + 5)).toInt64 &&& 4294967295)) (eq_true ok1)) allw_ok mf_Mo_value kw_1102 kw_1103 kw_1101 ⟨rfl, rfl, Nat.le_of_ble_eq_true rfl, Nat.le_of_ble_eq_true rfl⟩ rfl rfl hl.1 (Nat.le_of_ble_eq_true rfl) d_Law_law_1040 ⟨by omega, by omega⟩ (fun H locs w hw hB => ?_)
      subst hw
      have hB : bd D classes s.heap.size s.heap.size (wB G Gm cI cL cQ o σ2 π ((m_Mo_value τ (xs (6 * n + 1)) (xs (6 * n + 2)) (xs (6 * n + 3)) (((xs (6 * n + 4)).toInt64 <<< ((32 : Int32).toInt64 &&& 63) ||| (xs (6 * n + 5)).toInt64 &&& 4294967295))).2) (vp_updL f 0 (lb false))) s H locs := hB
      refine lv_istore (lv' := [(6, .int (bi ((m_Mo_value τ (xs (6 * n + 1)) (xs (6 * n + 2)) (xs (6 * n + 3)) (((xs (6 * n + 4)).toInt64 <<< ((32 : Int32).toInt64 &&& 63) ||| (xs (6 * n + 5)).toInt64 &&& 4294967295))).1))), (5, .int 0), (0, .ref b), (1, .ref (G 0 0)), (2, .ref (Gm 4 0)), (3, .ref o), (4, .int (nI (6 * n)))]) hx hb d_Law_law_1043 hl (by decide) rfl (fun ls hl => ?_)
      refine lv_aload_n hx hb d_Law_law_1045 rfl (lv_at hl 4 rfl) ?_
      refine kV hC hB _ lkM_o rfl (c_Mo_thrown ((m_Mo_value τ (xs (6 * n + 1)) (xs (6 * n + 2)) (xs (6 * n + 3)) (((xs (6 * n + 4)).toInt64 <<< ((32 : Int32).toInt64 &&& 63) ||| (xs (6 * n + 5)).toInt64 &&& 4294967295))).2) rfl) allw_ok mf_Mo_thrown kw_950 kw_951 kw_949 ⟨rfl, rfl, Nat.le_of_ble_eq_true rfl, Nat.le_of_ble_eq_true rfl⟩ rfl rfl hl.1 (Nat.le_of_ble_eq_true rfl) d_Law_law_1046 ⟨by omega, by omega⟩ (roK fun H locs hB => ?_)
      refine lv_iload hx hb d_Law_law_1049 (lv_at hl 1 rfl) ?_
      refine lv_icmp_eq (tgt := 1056) hx hb d_Law_law_1051 (by decide) (fun c_1 => ?_) (fun c_1 => absurd h0 c_1)
      refine lv_iload hx hb d_Law_law_1056 (lv_at hl 1 rfl) ?_
      refine lv_if_ne (tgt := 1080) hx hb d_Law_law_1058 (by decide) (fun c_2 => absurd rfl c_2) (fun c_2 => ?_)
      refine lv_aload_n hx hb d_Law_law_1061 rfl (lv_at hl 5 rfl) ?_
      refine lv_iconst (v := 0) hx hb d_Law_law_1062 (by decide) ?_
      refine va_lald hx hb hC.2.2.2.2.2.2.2.1.1 hB.1 12 1 wB_out rfl vin0 d_Law_law_1063 ?_
      refine lv_iload hx hb d_Law_law_1064 (lv_at hl 0 rfl) ?_
      refine lv_if_eq (tgt := 1073) hx hb d_Law_law_1066 (by decide) (fun c_3 => ?_) (fun c_3 => absurd (by rw [← hv]; rfl) c_3)
      refine lv_lconst (v := 0) hx hb d_Law_law_1073 (by decide) ?_
      refine W.lcmp hx hb d_Law_law_1074 ?_
      refine lv_if_eq (tgt := 1080) hx hb d_Law_law_1075 (by decide) (fun c_4 => ?_) (fun c_4 => absurd (cmp0.mpr rfl) c_4)
      refine lv_goto (tgt := 1662) hx hb d_Law_law_1080 (by decide) ?_
      exact hN _ π ((m_Mo_value τ (xs (6 * n + 1)) (xs (6 * n + 2)) (xs (6 * n + 3)) (((xs (6 * n + 4)).toInt64 <<< ((32 : Int32).toInt64 &&& 63) ||| (xs (6 * n + 5)).toInt64 &&& 4294967295))).2) _ _ _ _ _ ls hπ hRL (cst_up hc hns (by omega) (by omega)) (bd_perm hB wAB.symm) (lv_sub hl [2, 3, 4, 5, 6] rfl)
    · refine lv_aload_n hx hb d_Law_law_952 rfl (lv_at hl 1 rfl) ?_
      refine rdj hK hn hB.2.2 (lv_at hl 0 rfl) (lv_at hl 4 rfl) (j := 1) (by decide) d_Law_law_953 d_Law_law_954 d_Law_law_956 (by decide) d_Law_law_957 d_Law_law_958 ?_
      refine rdj hK hn hB.2.2 (lv_at hl 0 rfl) (lv_at hl 4 rfl) (j := 2) (by decide) d_Law_law_959 d_Law_law_960 d_Law_law_962 (by decide) d_Law_law_963 d_Law_law_964 ?_
      refine rdj hK hn hB.2.2 (lv_at hl 0 rfl) (lv_at hl 4 rfl) (j := 3) (by decide) d_Law_law_965 d_Law_law_966 d_Law_law_968 (by decide) d_Law_law_969 d_Law_law_970 ?_
      refine rdj hK hn hB.2.2 (lv_at hl 0 rfl) (lv_at hl 4 rfl) (j := 4) (by decide) d_Law_law_971 d_Law_law_972 d_Law_law_974 (by decide) d_Law_law_975 d_Law_law_976 ?_
      refine lv_i2l hx hb d_Law_law_977 rfl ?_
      refine lv_bipush (v := 32) hx hb d_Law_law_978 (by decide) ?_
      refine lv_lshl hx hb d_Law_law_980 rfl ?_
      refine rdj hK hn hB.2.2 (lv_at hl 0 rfl) (lv_at hl 4 rfl) (j := 5) (by decide) d_Law_law_981 d_Law_law_982 d_Law_law_984 (by decide) d_Law_law_985 d_Law_law_986 ?_
      refine lv_i2l hx hb d_Law_law_987 rfl ?_
      refine lv_ldc2 (v := 4294967295) hx hb hC.2.2.2.2.1 (hC.2.2.2.2.2.1 _ kw_1173) d_Law_law_988 ?_
      refine lv_land hx hb d_Law_law_991 ?_
      refine lv_lor hx hb d_Law_law_992 ?_
      refine lv_aload_n hx hb d_Law_law_993 rfl (lv_at hl 3 rfl) ?_
      have hv40 := vlM_value hR hM
      refine kSW hC hSW (Nat.le_refl _) hB (h_value σ π hπ o f (xs (6 * n + 1)) (xs (6 * n + 2)) (xs (6 * n + 3)) (((xs (6 * n + 4)).toInt64 <<< ((32 : Int32).toInt64 &&& 63) ||| (xs (6 * n + 5)).toInt64 &&& 4294967295)) (true, σ2) hM) allw_ok kw_748 kw_0 ⟨by decide, by decide⟩ (n := 6) (by decide +kernel) kw_747 kw_746 ⟨rfl, rfl, Nat.le_of_ble_eq_true rfl, Nat.le_of_ble_eq_true rfl⟩ rfl rfl hl.1 (Nat.le_of_ble_eq_true rfl) d_Law_law_994 ⟨by omega, by omega⟩ (fun H locs w hw hB => ?_)
      obtain ⟨π, hπ, rfl⟩ := hw
      have hB : bd D classes s.heap.size s.heap.size (wB G Gm cI cL cQ o σ2 π τ (vp_updL f 0 (lb true))) s H locs := bd_perm hB wAB
      refine lv_istore (lv' := [(5, .int 0), (0, .ref b), (1, .ref (G 0 0)), (2, .ref (Gm 4 0)), (3, .ref o), (4, .int (nI (6 * n)))]) hx hb d_Law_law_997 hl (by decide) rfl (fun ls hl => ?_)
      refine lv_aload_n hx hb d_Law_law_999 rfl (lv_at hl 3 rfl) ?_
      refine rdj hK hn hB.2.2 (lv_at hl 1 rfl) (lv_at hl 5 rfl) (j := 1) (by decide) d_Law_law_1000 d_Law_law_1001 d_Law_law_1003 (by decide) d_Law_law_1004 d_Law_law_1005 ?_
      refine rdj hK hn hB.2.2 (lv_at hl 1 rfl) (lv_at hl 5 rfl) (j := 2) (by decide) d_Law_law_1006 d_Law_law_1007 d_Law_law_1009 (by decide) d_Law_law_1010 d_Law_law_1011 ?_
      refine rdj hK hn hB.2.2 (lv_at hl 1 rfl) (lv_at hl 5 rfl) (j := 3) (by decide) d_Law_law_1012 d_Law_law_1013 d_Law_law_1015 (by decide) d_Law_law_1016 d_Law_law_1017 ?_
      refine rdj hK hn hB.2.2 (lv_at hl 1 rfl) (lv_at hl 5 rfl) (j := 4) (by decide) d_Law_law_1018 d_Law_law_1019 d_Law_law_1021 (by decide) d_Law_law_1022 d_Law_law_1023 ?_
      refine lv_i2l hx hb d_Law_law_1024 rfl ?_
      refine lv_bipush (v := 32) hx hb d_Law_law_1025 (by decide) ?_
      refine lv_lshl hx hb d_Law_law_1027 rfl ?_
      refine rdj hK hn hB.2.2 (lv_at hl 1 rfl) (lv_at hl 5 rfl) (j := 5) (by decide) d_Law_law_1028 d_Law_law_1029 d_Law_law_1031 (by decide) d_Law_law_1032 d_Law_law_1033 ?_
      refine lv_i2l hx hb d_Law_law_1034 rfl ?_
      refine lv_ldc2 (v := 4294967295) hx hb hC.2.2.2.2.1 (hC.2.2.2.2.2.1 _ kw_1173) d_Law_law_1035 ?_
      refine lv_land hx hb d_Law_law_1038 ?_
      refine lv_lor hx hb d_Law_law_1039 ?_
      refine kV hC hB _ lkM_o rfl (c_Mo_value τ (xs (6 * n + 1)) (xs (6 * n + 2)) (xs (6 * n + 3)) (((xs (6 * n + 4)).toInt64 <<< ((32 : Int32).toInt64 &&& 63) ||| (xs (6 * n + 5)).toInt64 &&& 4294967295)) (eq_true ok1)) allw_ok mf_Mo_value kw_1102 kw_1103 kw_1101 ⟨rfl, rfl, Nat.le_of_ble_eq_true rfl, Nat.le_of_ble_eq_true rfl⟩ rfl rfl hl.1 (Nat.le_of_ble_eq_true rfl) d_Law_law_1040 ⟨by omega, by omega⟩ (fun H locs w hw hB => ?_)
      subst hw
      have hB : bd D classes s.heap.size s.heap.size (wB G Gm cI cL cQ o σ2 π ((m_Mo_value τ (xs (6 * n + 1)) (xs (6 * n + 2)) (xs (6 * n + 3)) (((xs (6 * n + 4)).toInt64 <<< ((32 : Int32).toInt64 &&& 63) ||| (xs (6 * n + 5)).toInt64 &&& 4294967295))).2) (vp_updL f 0 (lb true))) s H locs := hB
      refine lv_istore (lv' := [(6, .int (bi ((m_Mo_value τ (xs (6 * n + 1)) (xs (6 * n + 2)) (xs (6 * n + 3)) (((xs (6 * n + 4)).toInt64 <<< ((32 : Int32).toInt64 &&& 63) ||| (xs (6 * n + 5)).toInt64 &&& 4294967295))).1))), (5, .int 0), (0, .ref b), (1, .ref (G 0 0)), (2, .ref (Gm 4 0)), (3, .ref o), (4, .int (nI (6 * n)))]) hx hb d_Law_law_1043 hl (by decide) rfl (fun ls hl => ?_)
      refine lv_aload_n hx hb d_Law_law_1045 rfl (lv_at hl 4 rfl) ?_
      refine kV hC hB _ lkM_o rfl (c_Mo_thrown ((m_Mo_value τ (xs (6 * n + 1)) (xs (6 * n + 2)) (xs (6 * n + 3)) (((xs (6 * n + 4)).toInt64 <<< ((32 : Int32).toInt64 &&& 63) ||| (xs (6 * n + 5)).toInt64 &&& 4294967295))).2) rfl) allw_ok mf_Mo_thrown kw_950 kw_951 kw_949 ⟨rfl, rfl, Nat.le_of_ble_eq_true rfl, Nat.le_of_ble_eq_true rfl⟩ rfl rfl hl.1 (Nat.le_of_ble_eq_true rfl) d_Law_law_1046 ⟨by omega, by omega⟩ (roK fun H locs hB => ?_)
      refine lv_iload hx hb d_Law_law_1049 (lv_at hl 1 rfl) ?_
      refine lv_icmp_eq (tgt := 1056) hx hb d_Law_law_1051 (by decide) (fun c_1 => ?_) (fun c_1 => absurd h0 c_1)
      refine lv_iload hx hb d_Law_law_1056 (lv_at hl 1 rfl) ?_
      refine lv_if_ne (tgt := 1080) hx hb d_Law_law_1058 (by decide) (fun c_2 => absurd rfl c_2) (fun c_2 => ?_)
      refine lv_aload_n hx hb d_Law_law_1061 rfl (lv_at hl 5 rfl) ?_
      refine lv_iconst (v := 0) hx hb d_Law_law_1062 (by decide) ?_
      refine va_lald hx hb hC.2.2.2.2.2.2.2.1.1 hB.1 12 1 wB_out rfl vin0 d_Law_law_1063 ?_
      refine lv_iload hx hb d_Law_law_1064 (lv_at hl 0 rfl) ?_
      refine lv_if_eq (tgt := 1073) hx hb d_Law_law_1066 (by decide) (fun c_3 => absurd c_3 (by rw [← hv]; decide)) (fun c_3 => ?_)
      refine lv_lconst (v := 1) hx hb d_Law_law_1069 (by decide) ?_
      refine lv_goto (tgt := 1074) hx hb d_Law_law_1070 (by decide) ?_
      refine W.lcmp hx hb d_Law_law_1074 ?_
      refine lv_if_eq (tgt := 1080) hx hb d_Law_law_1075 (by decide) (fun c_4 => ?_) (fun c_4 => absurd (cmp0.mpr rfl) c_4)
      refine lv_goto (tgt := 1662) hx hb d_Law_law_1080 (by decide) ?_
      exact hN _ π ((m_Mo_value τ (xs (6 * n + 1)) (xs (6 * n + 2)) (xs (6 * n + 3)) (((xs (6 * n + 4)).toInt64 <<< ((32 : Int32).toInt64 &&& 63) ||| (xs (6 * n + 5)).toInt64 &&& 4294967295))).2) _ _ _ _ _ ls hπ hRL (cst_up hc hns (by omega) (by omega)) (bd_perm hB wAB.symm) (lv_sub hl [2, 3, 4, 5, 6] rfl)
set_option maxHeartbeats 1000000 in
set_option maxRecDepth 100000 in
theorem lw_fit (hK : LC D cI cL cQ p l s m meth c b L xs) {n : Nat} (hn : 6 * n + 6 ≤ L) (hN : NX D G Gm cI cL cQ o p l e s m below meth c b n) {σ : SC} {π : PJ} {τ : SM} {f : Nat → Int64} {H : Heap} {locs : List Loc} {cells slots : Nat} {ls : Array Slot} (hπ : RJ π σ) (hR : RL n σ τ) (hc : cst n σ cells slots) (hB : bd D classes s.heap.size s.heap.size (wA G Gm cI cL cQ o σ π τ f) s H locs) (hl : lv_has ls 8 [(0, .ref b), (1, .ref (G 0 0)), (2, .ref (Gm 4 0)), (3, .ref o), (4, .int (nI (6 * n)))]) : WL p l e s m below meth c b H locs cells slots (F0 m 1083 ls []) := by
  obtain ⟨hC, hSW, htl, hX, hbl, hL⟩ := id hK
  have hx := hC.1
  have hb := hC.2.1
  obtain ⟨hr1, hr2⟩ := cst_room hc hR (by omega)
  by_cases hz : xs (6 * n + 4) = 0
  · obtain ⟨ok1, ok2⟩ := op_fit (c := n) (by omega) hR (xs (6 * n + 1)) (xs (6 * n + 2)) (xs (6 * n + 3)) false
    rcases ok2 with ⟨hM, h0, hRL⟩ | ⟨v, σ2, hM, h0, hv, hRL, hns⟩
    · refine lv_aload_n hx hb d_Law_law_1083 rfl (lv_at hl 1 rfl) ?_
      refine rdj hK hn hB.2.2 (lv_at hl 0 rfl) (lv_at hl 4 rfl) (j := 1) (by decide) d_Law_law_1084 d_Law_law_1085 d_Law_law_1087 (by decide) d_Law_law_1088 d_Law_law_1089 ?_
      refine rdj hK hn hB.2.2 (lv_at hl 0 rfl) (lv_at hl 4 rfl) (j := 2) (by decide) d_Law_law_1090 d_Law_law_1091 d_Law_law_1093 (by decide) d_Law_law_1094 d_Law_law_1095 ?_
      refine rdj hK hn hB.2.2 (lv_at hl 0 rfl) (lv_at hl 4 rfl) (j := 3) (by decide) d_Law_law_1096 d_Law_law_1097 d_Law_law_1099 (by decide) d_Law_law_1100 d_Law_law_1101 ?_
      refine rdj hK hn hB.2.2 (lv_at hl 0 rfl) (lv_at hl 4 rfl) (j := 4) (by decide) d_Law_law_1102 d_Law_law_1103 d_Law_law_1105 (by decide) d_Law_law_1106 d_Law_law_1107 ?_
      refine lv_if_eq (tgt := 1115) hx hb d_Law_law_1108 (by decide) (fun c_9 => ?_) (fun c_9 => absurd hz c_9)
      refine lv_iconst (v := 0) hx hb d_Law_law_1115 (by decide) ?_
      refine lv_aload_n hx hb d_Law_law_1116 rfl (lv_at hl 3 rfl) ?_
      refine kSW hC hSW (Nat.le_refl _) hB (ht_fit htl σ π hπ o f (xs (6 * n + 1)) (xs (6 * n + 2)) (xs (6 * n + 3)) false hM) allw_ok kw_791 kw_0 ⟨by decide, by decide⟩ (n := 6) (by decide +kernel) kw_790 kw_789 ⟨rfl, rfl, Nat.le_of_ble_eq_true rfl, Nat.le_of_ble_eq_true rfl⟩ rfl rfl hl.1 (Nat.le_of_ble_eq_true rfl) d_Law_law_1117 ⟨by omega, by omega⟩ (fun H locs w hw hB => ?_)
      obtain ⟨π, hπ, rfl⟩ := hw
      have hB : bd D classes s.heap.size s.heap.size (wB G Gm cI cL cQ o σ π τ f) s H locs := bd_perm hB wAB
      refine lv_istore (lv' := [(5, .int 1), (0, .ref b), (1, .ref (G 0 0)), (2, .ref (Gm 4 0)), (3, .ref o), (4, .int (nI (6 * n)))]) hx hb d_Law_law_1120 hl (by decide) rfl (fun ls hl => ?_)
      refine lv_aload_n hx hb d_Law_law_1122 rfl (lv_at hl 3 rfl) ?_
      refine rdj hK hn hB.2.2 (lv_at hl 1 rfl) (lv_at hl 5 rfl) (j := 1) (by decide) d_Law_law_1123 d_Law_law_1124 d_Law_law_1126 (by decide) d_Law_law_1127 d_Law_law_1128 ?_
      refine rdj hK hn hB.2.2 (lv_at hl 1 rfl) (lv_at hl 5 rfl) (j := 2) (by decide) d_Law_law_1129 d_Law_law_1130 d_Law_law_1132 (by decide) d_Law_law_1133 d_Law_law_1134 ?_
      refine rdj hK hn hB.2.2 (lv_at hl 1 rfl) (lv_at hl 5 rfl) (j := 3) (by decide) d_Law_law_1135 d_Law_law_1136 d_Law_law_1138 (by decide) d_Law_law_1139 d_Law_law_1140 ?_
      refine rdj hK hn hB.2.2 (lv_at hl 1 rfl) (lv_at hl 5 rfl) (j := 4) (by decide) d_Law_law_1141 d_Law_law_1142 d_Law_law_1144 (by decide) d_Law_law_1145 d_Law_law_1146 ?_
      refine lv_if_eq (tgt := 1154) hx hb d_Law_law_1147 (by decide) (fun c_9 => ?_) (fun c_9 => absurd hz c_9)
      refine lv_iconst (v := 0) hx hb d_Law_law_1154 (by decide) ?_
      refine kV hC hB _ lkM_o rfl (c_Mo_fit τ (xs (6 * n + 1)) (xs (6 * n + 2)) (xs (6 * n + 3)) false (eq_true ok1)) allw_ok mf_Mo_fit kw_1126 kw_1127 kw_1125 ⟨rfl, rfl, Nat.le_of_ble_eq_true rfl, Nat.le_of_ble_eq_true rfl⟩ rfl rfl hl.1 (Nat.le_of_ble_eq_true rfl) d_Law_law_1155 ⟨by omega, by omega⟩ (fun H locs w hw hB => ?_)
      subst hw
      have hB : bd D classes s.heap.size s.heap.size (wB G Gm cI cL cQ o σ π ((m_Mo_fit τ (xs (6 * n + 1)) (xs (6 * n + 2)) (xs (6 * n + 3)) false).2) f) s H locs := hB
      refine lv_istore (lv' := [(6, .int (bi ((m_Mo_fit τ (xs (6 * n + 1)) (xs (6 * n + 2)) (xs (6 * n + 3)) false).1))), (5, .int 1), (0, .ref b), (1, .ref (G 0 0)), (2, .ref (Gm 4 0)), (3, .ref o), (4, .int (nI (6 * n)))]) hx hb d_Law_law_1158 hl (by decide) rfl (fun ls hl => ?_)
      refine lv_aload_n hx hb d_Law_law_1160 rfl (lv_at hl 4 rfl) ?_
      refine kV hC hB _ lkM_o rfl (c_Mo_thrown ((m_Mo_fit τ (xs (6 * n + 1)) (xs (6 * n + 2)) (xs (6 * n + 3)) false).2) rfl) allw_ok mf_Mo_thrown kw_950 kw_951 kw_949 ⟨rfl, rfl, Nat.le_of_ble_eq_true rfl, Nat.le_of_ble_eq_true rfl⟩ rfl rfl hl.1 (Nat.le_of_ble_eq_true rfl) d_Law_law_1161 ⟨by omega, by omega⟩ (roK fun H locs hB => ?_)
      refine lv_iload hx hb d_Law_law_1164 (lv_at hl 1 rfl) ?_
      refine lv_icmp_eq (tgt := 1171) hx hb d_Law_law_1166 (by decide) (fun c_1 => ?_) (fun c_1 => absurd h0 c_1)
      refine lv_iload hx hb d_Law_law_1171 (lv_at hl 1 rfl) ?_
      refine lv_if_ne (tgt := 1195) hx hb d_Law_law_1173 (by decide) (fun c_2 => ?_) (fun c_2 => absurd c_2 (by decide))
      refine lv_goto (tgt := 1662) hx hb d_Law_law_1195 (by decide) ?_
      exact hN _ π ((m_Mo_fit τ (xs (6 * n + 1)) (xs (6 * n + 2)) (xs (6 * n + 3)) false).2) _ _ _ _ _ ls hπ hRL (cst_up hc (Nat.le_succ _) (by omega) (by omega)) (bd_perm hB wAB.symm) (lv_sub hl [2, 3, 4, 5, 6] rfl)
    · rcases v with _ | _
      · refine lv_aload_n hx hb d_Law_law_1083 rfl (lv_at hl 1 rfl) ?_
        refine rdj hK hn hB.2.2 (lv_at hl 0 rfl) (lv_at hl 4 rfl) (j := 1) (by decide) d_Law_law_1084 d_Law_law_1085 d_Law_law_1087 (by decide) d_Law_law_1088 d_Law_law_1089 ?_
        refine rdj hK hn hB.2.2 (lv_at hl 0 rfl) (lv_at hl 4 rfl) (j := 2) (by decide) d_Law_law_1090 d_Law_law_1091 d_Law_law_1093 (by decide) d_Law_law_1094 d_Law_law_1095 ?_
        refine rdj hK hn hB.2.2 (lv_at hl 0 rfl) (lv_at hl 4 rfl) (j := 3) (by decide) d_Law_law_1096 d_Law_law_1097 d_Law_law_1099 (by decide) d_Law_law_1100 d_Law_law_1101 ?_
        refine rdj hK hn hB.2.2 (lv_at hl 0 rfl) (lv_at hl 4 rfl) (j := 4) (by decide) d_Law_law_1102 d_Law_law_1103 d_Law_law_1105 (by decide) d_Law_law_1106 d_Law_law_1107 ?_
        refine lv_if_eq (tgt := 1115) hx hb d_Law_law_1108 (by decide) (fun c_9 => ?_) (fun c_9 => absurd hz c_9)
        refine lv_iconst (v := 0) hx hb d_Law_law_1115 (by decide) ?_
        refine lv_aload_n hx hb d_Law_law_1116 rfl (lv_at hl 3 rfl) ?_
        have hv40 := vlM_fit hR hM
        refine kSW hC hSW (Nat.le_refl _) hB (h_fit σ π hπ o f (xs (6 * n + 1)) (xs (6 * n + 2)) (xs (6 * n + 3)) false (false, σ2) hM) allw_ok kw_791 kw_0 ⟨by decide, by decide⟩ (n := 6) (by decide +kernel) kw_790 kw_789 ⟨rfl, rfl, Nat.le_of_ble_eq_true rfl, Nat.le_of_ble_eq_true rfl⟩ rfl rfl hl.1 (Nat.le_of_ble_eq_true rfl) d_Law_law_1117 ⟨by omega, by omega⟩ (fun H locs w hw hB => ?_)
        obtain ⟨π, hπ, rfl⟩ := hw
        have hB : bd D classes s.heap.size s.heap.size (wB G Gm cI cL cQ o σ2 π τ (vp_updL f 0 (lb false))) s H locs := bd_perm hB wAB
        refine lv_istore (lv' := [(5, .int 0), (0, .ref b), (1, .ref (G 0 0)), (2, .ref (Gm 4 0)), (3, .ref o), (4, .int (nI (6 * n)))]) hx hb d_Law_law_1120 hl (by decide) rfl (fun ls hl => ?_)
        refine lv_aload_n hx hb d_Law_law_1122 rfl (lv_at hl 3 rfl) ?_
        refine rdj hK hn hB.2.2 (lv_at hl 1 rfl) (lv_at hl 5 rfl) (j := 1) (by decide) d_Law_law_1123 d_Law_law_1124 d_Law_law_1126 (by decide) d_Law_law_1127 d_Law_law_1128 ?_
        refine rdj hK hn hB.2.2 (lv_at hl 1 rfl) (lv_at hl 5 rfl) (j := 2) (by decide) d_Law_law_1129 d_Law_law_1130 d_Law_law_1132 (by decide) d_Law_law_1133 d_Law_law_1134 ?_
        refine rdj hK hn hB.2.2 (lv_at hl 1 rfl) (lv_at hl 5 rfl) (j := 3) (by decide) d_Law_law_1135 d_Law_law_1136 d_Law_law_1138 (by decide) d_Law_law_1139 d_Law_law_1140 ?_
        refine rdj hK hn hB.2.2 (lv_at hl 1 rfl) (lv_at hl 5 rfl) (j := 4) (by decide) d_Law_law_1141 d_Law_law_1142 d_Law_law_1144 (by decide) d_Law_law_1145 d_Law_law_1146 ?_
        refine lv_if_eq (tgt := 1154) hx hb d_Law_law_1147 (by decide) (fun c_9 => ?_) (fun c_9 => absurd hz c_9)
        refine lv_iconst (v := 0) hx hb d_Law_law_1154 (by decide) ?_
        refine kV hC hB _ lkM_o rfl (c_Mo_fit τ (xs (6 * n + 1)) (xs (6 * n + 2)) (xs (6 * n + 3)) false (eq_true ok1)) allw_ok mf_Mo_fit kw_1126 kw_1127 kw_1125 ⟨rfl, rfl, Nat.le_of_ble_eq_true rfl, Nat.le_of_ble_eq_true rfl⟩ rfl rfl hl.1 (Nat.le_of_ble_eq_true rfl) d_Law_law_1155 ⟨by omega, by omega⟩ (fun H locs w hw hB => ?_)
        subst hw
        have hB : bd D classes s.heap.size s.heap.size (wB G Gm cI cL cQ o σ2 π ((m_Mo_fit τ (xs (6 * n + 1)) (xs (6 * n + 2)) (xs (6 * n + 3)) false).2) (vp_updL f 0 (lb false))) s H locs := hB
        refine lv_istore (lv' := [(6, .int (bi ((m_Mo_fit τ (xs (6 * n + 1)) (xs (6 * n + 2)) (xs (6 * n + 3)) false).1))), (5, .int 0), (0, .ref b), (1, .ref (G 0 0)), (2, .ref (Gm 4 0)), (3, .ref o), (4, .int (nI (6 * n)))]) hx hb d_Law_law_1158 hl (by decide) rfl (fun ls hl => ?_)
        refine lv_aload_n hx hb d_Law_law_1160 rfl (lv_at hl 4 rfl) ?_
        refine kV hC hB _ lkM_o rfl (c_Mo_thrown ((m_Mo_fit τ (xs (6 * n + 1)) (xs (6 * n + 2)) (xs (6 * n + 3)) false).2) rfl) allw_ok mf_Mo_thrown kw_950 kw_951 kw_949 ⟨rfl, rfl, Nat.le_of_ble_eq_true rfl, Nat.le_of_ble_eq_true rfl⟩ rfl rfl hl.1 (Nat.le_of_ble_eq_true rfl) d_Law_law_1161 ⟨by omega, by omega⟩ (roK fun H locs hB => ?_)
        refine lv_iload hx hb d_Law_law_1164 (lv_at hl 1 rfl) ?_
        refine lv_icmp_eq (tgt := 1171) hx hb d_Law_law_1166 (by decide) (fun c_1 => ?_) (fun c_1 => absurd h0 c_1)
        refine lv_iload hx hb d_Law_law_1171 (lv_at hl 1 rfl) ?_
        refine lv_if_ne (tgt := 1195) hx hb d_Law_law_1173 (by decide) (fun c_2 => absurd rfl c_2) (fun c_2 => ?_)
        refine lv_aload_n hx hb d_Law_law_1176 rfl (lv_at hl 5 rfl) ?_
        refine lv_iconst (v := 0) hx hb d_Law_law_1177 (by decide) ?_
        refine va_lald hx hb hC.2.2.2.2.2.2.2.1.1 hB.1 12 1 wB_out rfl vin0 d_Law_law_1178 ?_
        refine lv_iload hx hb d_Law_law_1179 (lv_at hl 0 rfl) ?_
        refine lv_if_eq (tgt := 1188) hx hb d_Law_law_1181 (by decide) (fun c_3 => ?_) (fun c_3 => absurd (by rw [← hv]; rfl) c_3)
        refine lv_lconst (v := 0) hx hb d_Law_law_1188 (by decide) ?_
        refine W.lcmp hx hb d_Law_law_1189 ?_
        refine lv_if_eq (tgt := 1195) hx hb d_Law_law_1190 (by decide) (fun c_4 => ?_) (fun c_4 => absurd (cmp0.mpr rfl) c_4)
        refine lv_goto (tgt := 1662) hx hb d_Law_law_1195 (by decide) ?_
        exact hN _ π ((m_Mo_fit τ (xs (6 * n + 1)) (xs (6 * n + 2)) (xs (6 * n + 3)) false).2) _ _ _ _ _ ls hπ hRL (cst_up hc hns (by omega) (by omega)) (bd_perm hB wAB.symm) (lv_sub hl [2, 3, 4, 5, 6] rfl)
      · refine lv_aload_n hx hb d_Law_law_1083 rfl (lv_at hl 1 rfl) ?_
        refine rdj hK hn hB.2.2 (lv_at hl 0 rfl) (lv_at hl 4 rfl) (j := 1) (by decide) d_Law_law_1084 d_Law_law_1085 d_Law_law_1087 (by decide) d_Law_law_1088 d_Law_law_1089 ?_
        refine rdj hK hn hB.2.2 (lv_at hl 0 rfl) (lv_at hl 4 rfl) (j := 2) (by decide) d_Law_law_1090 d_Law_law_1091 d_Law_law_1093 (by decide) d_Law_law_1094 d_Law_law_1095 ?_
        refine rdj hK hn hB.2.2 (lv_at hl 0 rfl) (lv_at hl 4 rfl) (j := 3) (by decide) d_Law_law_1096 d_Law_law_1097 d_Law_law_1099 (by decide) d_Law_law_1100 d_Law_law_1101 ?_
        refine rdj hK hn hB.2.2 (lv_at hl 0 rfl) (lv_at hl 4 rfl) (j := 4) (by decide) d_Law_law_1102 d_Law_law_1103 d_Law_law_1105 (by decide) d_Law_law_1106 d_Law_law_1107 ?_
        refine lv_if_eq (tgt := 1115) hx hb d_Law_law_1108 (by decide) (fun c_9 => ?_) (fun c_9 => absurd hz c_9)
        refine lv_iconst (v := 0) hx hb d_Law_law_1115 (by decide) ?_
        refine lv_aload_n hx hb d_Law_law_1116 rfl (lv_at hl 3 rfl) ?_
        have hv40 := vlM_fit hR hM
        refine kSW hC hSW (Nat.le_refl _) hB (h_fit σ π hπ o f (xs (6 * n + 1)) (xs (6 * n + 2)) (xs (6 * n + 3)) false (true, σ2) hM) allw_ok kw_791 kw_0 ⟨by decide, by decide⟩ (n := 6) (by decide +kernel) kw_790 kw_789 ⟨rfl, rfl, Nat.le_of_ble_eq_true rfl, Nat.le_of_ble_eq_true rfl⟩ rfl rfl hl.1 (Nat.le_of_ble_eq_true rfl) d_Law_law_1117 ⟨by omega, by omega⟩ (fun H locs w hw hB => ?_)
        obtain ⟨π, hπ, rfl⟩ := hw
        have hB : bd D classes s.heap.size s.heap.size (wB G Gm cI cL cQ o σ2 π τ (vp_updL f 0 (lb true))) s H locs := bd_perm hB wAB
        refine lv_istore (lv' := [(5, .int 0), (0, .ref b), (1, .ref (G 0 0)), (2, .ref (Gm 4 0)), (3, .ref o), (4, .int (nI (6 * n)))]) hx hb d_Law_law_1120 hl (by decide) rfl (fun ls hl => ?_)
        refine lv_aload_n hx hb d_Law_law_1122 rfl (lv_at hl 3 rfl) ?_
        refine rdj hK hn hB.2.2 (lv_at hl 1 rfl) (lv_at hl 5 rfl) (j := 1) (by decide) d_Law_law_1123 d_Law_law_1124 d_Law_law_1126 (by decide) d_Law_law_1127 d_Law_law_1128 ?_
        refine rdj hK hn hB.2.2 (lv_at hl 1 rfl) (lv_at hl 5 rfl) (j := 2) (by decide) d_Law_law_1129 d_Law_law_1130 d_Law_law_1132 (by decide) d_Law_law_1133 d_Law_law_1134 ?_
        refine rdj hK hn hB.2.2 (lv_at hl 1 rfl) (lv_at hl 5 rfl) (j := 3) (by decide) d_Law_law_1135 d_Law_law_1136 d_Law_law_1138 (by decide) d_Law_law_1139 d_Law_law_1140 ?_
        refine rdj hK hn hB.2.2 (lv_at hl 1 rfl) (lv_at hl 5 rfl) (j := 4) (by decide) d_Law_law_1141 d_Law_law_1142 d_Law_law_1144 (by decide) d_Law_law_1145 d_Law_law_1146 ?_
        refine lv_if_eq (tgt := 1154) hx hb d_Law_law_1147 (by decide) (fun c_9 => ?_) (fun c_9 => absurd hz c_9)
        refine lv_iconst (v := 0) hx hb d_Law_law_1154 (by decide) ?_
        refine kV hC hB _ lkM_o rfl (c_Mo_fit τ (xs (6 * n + 1)) (xs (6 * n + 2)) (xs (6 * n + 3)) false (eq_true ok1)) allw_ok mf_Mo_fit kw_1126 kw_1127 kw_1125 ⟨rfl, rfl, Nat.le_of_ble_eq_true rfl, Nat.le_of_ble_eq_true rfl⟩ rfl rfl hl.1 (Nat.le_of_ble_eq_true rfl) d_Law_law_1155 ⟨by omega, by omega⟩ (fun H locs w hw hB => ?_)
        subst hw
        have hB : bd D classes s.heap.size s.heap.size (wB G Gm cI cL cQ o σ2 π ((m_Mo_fit τ (xs (6 * n + 1)) (xs (6 * n + 2)) (xs (6 * n + 3)) false).2) (vp_updL f 0 (lb true))) s H locs := hB
        refine lv_istore (lv' := [(6, .int (bi ((m_Mo_fit τ (xs (6 * n + 1)) (xs (6 * n + 2)) (xs (6 * n + 3)) false).1))), (5, .int 0), (0, .ref b), (1, .ref (G 0 0)), (2, .ref (Gm 4 0)), (3, .ref o), (4, .int (nI (6 * n)))]) hx hb d_Law_law_1158 hl (by decide) rfl (fun ls hl => ?_)
        refine lv_aload_n hx hb d_Law_law_1160 rfl (lv_at hl 4 rfl) ?_
        refine kV hC hB _ lkM_o rfl (c_Mo_thrown ((m_Mo_fit τ (xs (6 * n + 1)) (xs (6 * n + 2)) (xs (6 * n + 3)) false).2) rfl) allw_ok mf_Mo_thrown kw_950 kw_951 kw_949 ⟨rfl, rfl, Nat.le_of_ble_eq_true rfl, Nat.le_of_ble_eq_true rfl⟩ rfl rfl hl.1 (Nat.le_of_ble_eq_true rfl) d_Law_law_1161 ⟨by omega, by omega⟩ (roK fun H locs hB => ?_)
        refine lv_iload hx hb d_Law_law_1164 (lv_at hl 1 rfl) ?_
        refine lv_icmp_eq (tgt := 1171) hx hb d_Law_law_1166 (by decide) (fun c_1 => ?_) (fun c_1 => absurd h0 c_1)
        refine lv_iload hx hb d_Law_law_1171 (lv_at hl 1 rfl) ?_
        refine lv_if_ne (tgt := 1195) hx hb d_Law_law_1173 (by decide) (fun c_2 => absurd rfl c_2) (fun c_2 => ?_)
        refine lv_aload_n hx hb d_Law_law_1176 rfl (lv_at hl 5 rfl) ?_
        refine lv_iconst (v := 0) hx hb d_Law_law_1177 (by decide) ?_
        refine va_lald hx hb hC.2.2.2.2.2.2.2.1.1 hB.1 12 1 wB_out rfl vin0 d_Law_law_1178 ?_
        refine lv_iload hx hb d_Law_law_1179 (lv_at hl 0 rfl) ?_
        refine lv_if_eq (tgt := 1188) hx hb d_Law_law_1181 (by decide) (fun c_3 => absurd c_3 (by rw [← hv]; decide)) (fun c_3 => ?_)
        refine lv_lconst (v := 1) hx hb d_Law_law_1184 (by decide) ?_
        refine lv_goto (tgt := 1189) hx hb d_Law_law_1185 (by decide) ?_
        refine W.lcmp hx hb d_Law_law_1189 ?_
        refine lv_if_eq (tgt := 1195) hx hb d_Law_law_1190 (by decide) (fun c_4 => ?_) (fun c_4 => absurd (cmp0.mpr rfl) c_4)
        refine lv_goto (tgt := 1662) hx hb d_Law_law_1195 (by decide) ?_
        exact hN _ π ((m_Mo_fit τ (xs (6 * n + 1)) (xs (6 * n + 2)) (xs (6 * n + 3)) false).2) _ _ _ _ _ ls hπ hRL (cst_up hc hns (by omega) (by omega)) (bd_perm hB wAB.symm) (lv_sub hl [2, 3, 4, 5, 6] rfl)
  · obtain ⟨ok1, ok2⟩ := op_fit (c := n) (by omega) hR (xs (6 * n + 1)) (xs (6 * n + 2)) (xs (6 * n + 3)) true
    rcases ok2 with ⟨hM, h0, hRL⟩ | ⟨v, σ2, hM, h0, hv, hRL, hns⟩
    · refine lv_aload_n hx hb d_Law_law_1083 rfl (lv_at hl 1 rfl) ?_
      refine rdj hK hn hB.2.2 (lv_at hl 0 rfl) (lv_at hl 4 rfl) (j := 1) (by decide) d_Law_law_1084 d_Law_law_1085 d_Law_law_1087 (by decide) d_Law_law_1088 d_Law_law_1089 ?_
      refine rdj hK hn hB.2.2 (lv_at hl 0 rfl) (lv_at hl 4 rfl) (j := 2) (by decide) d_Law_law_1090 d_Law_law_1091 d_Law_law_1093 (by decide) d_Law_law_1094 d_Law_law_1095 ?_
      refine rdj hK hn hB.2.2 (lv_at hl 0 rfl) (lv_at hl 4 rfl) (j := 3) (by decide) d_Law_law_1096 d_Law_law_1097 d_Law_law_1099 (by decide) d_Law_law_1100 d_Law_law_1101 ?_
      refine rdj hK hn hB.2.2 (lv_at hl 0 rfl) (lv_at hl 4 rfl) (j := 4) (by decide) d_Law_law_1102 d_Law_law_1103 d_Law_law_1105 (by decide) d_Law_law_1106 d_Law_law_1107 ?_
      refine lv_if_eq (tgt := 1115) hx hb d_Law_law_1108 (by decide) (fun c_9 => absurd c_9 hz) (fun c_9 => ?_)
      refine lv_iconst (v := 1) hx hb d_Law_law_1111 (by decide) ?_
      refine lv_goto (tgt := 1116) hx hb d_Law_law_1112 (by decide) ?_
      refine lv_aload_n hx hb d_Law_law_1116 rfl (lv_at hl 3 rfl) ?_
      refine kSW hC hSW (Nat.le_refl _) hB (ht_fit htl σ π hπ o f (xs (6 * n + 1)) (xs (6 * n + 2)) (xs (6 * n + 3)) true hM) allw_ok kw_791 kw_0 ⟨by decide, by decide⟩ (n := 6) (by decide +kernel) kw_790 kw_789 ⟨rfl, rfl, Nat.le_of_ble_eq_true rfl, Nat.le_of_ble_eq_true rfl⟩ rfl rfl hl.1 (Nat.le_of_ble_eq_true rfl) d_Law_law_1117 ⟨by omega, by omega⟩ (fun H locs w hw hB => ?_)
      obtain ⟨π, hπ, rfl⟩ := hw
      have hB : bd D classes s.heap.size s.heap.size (wB G Gm cI cL cQ o σ π τ f) s H locs := bd_perm hB wAB
      refine lv_istore (lv' := [(5, .int 1), (0, .ref b), (1, .ref (G 0 0)), (2, .ref (Gm 4 0)), (3, .ref o), (4, .int (nI (6 * n)))]) hx hb d_Law_law_1120 hl (by decide) rfl (fun ls hl => ?_)
      refine lv_aload_n hx hb d_Law_law_1122 rfl (lv_at hl 3 rfl) ?_
      refine rdj hK hn hB.2.2 (lv_at hl 1 rfl) (lv_at hl 5 rfl) (j := 1) (by decide) d_Law_law_1123 d_Law_law_1124 d_Law_law_1126 (by decide) d_Law_law_1127 d_Law_law_1128 ?_
      refine rdj hK hn hB.2.2 (lv_at hl 1 rfl) (lv_at hl 5 rfl) (j := 2) (by decide) d_Law_law_1129 d_Law_law_1130 d_Law_law_1132 (by decide) d_Law_law_1133 d_Law_law_1134 ?_
      refine rdj hK hn hB.2.2 (lv_at hl 1 rfl) (lv_at hl 5 rfl) (j := 3) (by decide) d_Law_law_1135 d_Law_law_1136 d_Law_law_1138 (by decide) d_Law_law_1139 d_Law_law_1140 ?_
      refine rdj hK hn hB.2.2 (lv_at hl 1 rfl) (lv_at hl 5 rfl) (j := 4) (by decide) d_Law_law_1141 d_Law_law_1142 d_Law_law_1144 (by decide) d_Law_law_1145 d_Law_law_1146 ?_
      refine lv_if_eq (tgt := 1154) hx hb d_Law_law_1147 (by decide) (fun c_9 => absurd c_9 hz) (fun c_9 => ?_)
      refine lv_iconst (v := 1) hx hb d_Law_law_1150 (by decide) ?_
      refine lv_goto (tgt := 1155) hx hb d_Law_law_1151 (by decide) ?_
      refine kV hC hB _ lkM_o rfl (c_Mo_fit τ (xs (6 * n + 1)) (xs (6 * n + 2)) (xs (6 * n + 3)) true (eq_true ok1)) allw_ok mf_Mo_fit kw_1126 kw_1127 kw_1125 ⟨rfl, rfl, Nat.le_of_ble_eq_true rfl, Nat.le_of_ble_eq_true rfl⟩ rfl rfl hl.1 (Nat.le_of_ble_eq_true rfl) d_Law_law_1155 ⟨by omega, by omega⟩ (fun H locs w hw hB => ?_)
      subst hw
      have hB : bd D classes s.heap.size s.heap.size (wB G Gm cI cL cQ o σ π ((m_Mo_fit τ (xs (6 * n + 1)) (xs (6 * n + 2)) (xs (6 * n + 3)) true).2) f) s H locs := hB
      refine lv_istore (lv' := [(6, .int (bi ((m_Mo_fit τ (xs (6 * n + 1)) (xs (6 * n + 2)) (xs (6 * n + 3)) true).1))), (5, .int 1), (0, .ref b), (1, .ref (G 0 0)), (2, .ref (Gm 4 0)), (3, .ref o), (4, .int (nI (6 * n)))]) hx hb d_Law_law_1158 hl (by decide) rfl (fun ls hl => ?_)
      refine lv_aload_n hx hb d_Law_law_1160 rfl (lv_at hl 4 rfl) ?_
      refine kV hC hB _ lkM_o rfl (c_Mo_thrown ((m_Mo_fit τ (xs (6 * n + 1)) (xs (6 * n + 2)) (xs (6 * n + 3)) true).2) rfl) allw_ok mf_Mo_thrown kw_950 kw_951 kw_949 ⟨rfl, rfl, Nat.le_of_ble_eq_true rfl, Nat.le_of_ble_eq_true rfl⟩ rfl rfl hl.1 (Nat.le_of_ble_eq_true rfl) d_Law_law_1161 ⟨by omega, by omega⟩ (roK fun H locs hB => ?_)
      refine lv_iload hx hb d_Law_law_1164 (lv_at hl 1 rfl) ?_
      refine lv_icmp_eq (tgt := 1171) hx hb d_Law_law_1166 (by decide) (fun c_1 => ?_) (fun c_1 => absurd h0 c_1)
      refine lv_iload hx hb d_Law_law_1171 (lv_at hl 1 rfl) ?_
      refine lv_if_ne (tgt := 1195) hx hb d_Law_law_1173 (by decide) (fun c_2 => ?_) (fun c_2 => absurd c_2 (by decide))
      refine lv_goto (tgt := 1662) hx hb d_Law_law_1195 (by decide) ?_
      exact hN _ π ((m_Mo_fit τ (xs (6 * n + 1)) (xs (6 * n + 2)) (xs (6 * n + 3)) true).2) _ _ _ _ _ ls hπ hRL (cst_up hc (Nat.le_succ _) (by omega) (by omega)) (bd_perm hB wAB.symm) (lv_sub hl [2, 3, 4, 5, 6] rfl)
    · rcases v with _ | _
      · refine lv_aload_n hx hb d_Law_law_1083 rfl (lv_at hl 1 rfl) ?_
        refine rdj hK hn hB.2.2 (lv_at hl 0 rfl) (lv_at hl 4 rfl) (j := 1) (by decide) d_Law_law_1084 d_Law_law_1085 d_Law_law_1087 (by decide) d_Law_law_1088 d_Law_law_1089 ?_
        refine rdj hK hn hB.2.2 (lv_at hl 0 rfl) (lv_at hl 4 rfl) (j := 2) (by decide) d_Law_law_1090 d_Law_law_1091 d_Law_law_1093 (by decide) d_Law_law_1094 d_Law_law_1095 ?_
        refine rdj hK hn hB.2.2 (lv_at hl 0 rfl) (lv_at hl 4 rfl) (j := 3) (by decide) d_Law_law_1096 d_Law_law_1097 d_Law_law_1099 (by decide) d_Law_law_1100 d_Law_law_1101 ?_
        refine rdj hK hn hB.2.2 (lv_at hl 0 rfl) (lv_at hl 4 rfl) (j := 4) (by decide) d_Law_law_1102 d_Law_law_1103 d_Law_law_1105 (by decide) d_Law_law_1106 d_Law_law_1107 ?_
        refine lv_if_eq (tgt := 1115) hx hb d_Law_law_1108 (by decide) (fun c_9 => absurd c_9 hz) (fun c_9 => ?_)
        refine lv_iconst (v := 1) hx hb d_Law_law_1111 (by decide) ?_
        refine lv_goto (tgt := 1116) hx hb d_Law_law_1112 (by decide) ?_
        refine lv_aload_n hx hb d_Law_law_1116 rfl (lv_at hl 3 rfl) ?_
        have hv40 := vlM_fit hR hM
        refine kSW hC hSW (Nat.le_refl _) hB (h_fit σ π hπ o f (xs (6 * n + 1)) (xs (6 * n + 2)) (xs (6 * n + 3)) true (false, σ2) hM) allw_ok kw_791 kw_0 ⟨by decide, by decide⟩ (n := 6) (by decide +kernel) kw_790 kw_789 ⟨rfl, rfl, Nat.le_of_ble_eq_true rfl, Nat.le_of_ble_eq_true rfl⟩ rfl rfl hl.1 (Nat.le_of_ble_eq_true rfl) d_Law_law_1117 ⟨by omega, by omega⟩ (fun H locs w hw hB => ?_)
        obtain ⟨π, hπ, rfl⟩ := hw
        have hB : bd D classes s.heap.size s.heap.size (wB G Gm cI cL cQ o σ2 π τ (vp_updL f 0 (lb false))) s H locs := bd_perm hB wAB
        refine lv_istore (lv' := [(5, .int 0), (0, .ref b), (1, .ref (G 0 0)), (2, .ref (Gm 4 0)), (3, .ref o), (4, .int (nI (6 * n)))]) hx hb d_Law_law_1120 hl (by decide) rfl (fun ls hl => ?_)
        refine lv_aload_n hx hb d_Law_law_1122 rfl (lv_at hl 3 rfl) ?_
        refine rdj hK hn hB.2.2 (lv_at hl 1 rfl) (lv_at hl 5 rfl) (j := 1) (by decide) d_Law_law_1123 d_Law_law_1124 d_Law_law_1126 (by decide) d_Law_law_1127 d_Law_law_1128 ?_
        refine rdj hK hn hB.2.2 (lv_at hl 1 rfl) (lv_at hl 5 rfl) (j := 2) (by decide) d_Law_law_1129 d_Law_law_1130 d_Law_law_1132 (by decide) d_Law_law_1133 d_Law_law_1134 ?_
        refine rdj hK hn hB.2.2 (lv_at hl 1 rfl) (lv_at hl 5 rfl) (j := 3) (by decide) d_Law_law_1135 d_Law_law_1136 d_Law_law_1138 (by decide) d_Law_law_1139 d_Law_law_1140 ?_
        refine rdj hK hn hB.2.2 (lv_at hl 1 rfl) (lv_at hl 5 rfl) (j := 4) (by decide) d_Law_law_1141 d_Law_law_1142 d_Law_law_1144 (by decide) d_Law_law_1145 d_Law_law_1146 ?_
        refine lv_if_eq (tgt := 1154) hx hb d_Law_law_1147 (by decide) (fun c_9 => absurd c_9 hz) (fun c_9 => ?_)
        refine lv_iconst (v := 1) hx hb d_Law_law_1150 (by decide) ?_
        refine lv_goto (tgt := 1155) hx hb d_Law_law_1151 (by decide) ?_
        refine kV hC hB _ lkM_o rfl (c_Mo_fit τ (xs (6 * n + 1)) (xs (6 * n + 2)) (xs (6 * n + 3)) true (eq_true ok1)) allw_ok mf_Mo_fit kw_1126 kw_1127 kw_1125 ⟨rfl, rfl, Nat.le_of_ble_eq_true rfl, Nat.le_of_ble_eq_true rfl⟩ rfl rfl hl.1 (Nat.le_of_ble_eq_true rfl) d_Law_law_1155 ⟨by omega, by omega⟩ (fun H locs w hw hB => ?_)
        subst hw
        have hB : bd D classes s.heap.size s.heap.size (wB G Gm cI cL cQ o σ2 π ((m_Mo_fit τ (xs (6 * n + 1)) (xs (6 * n + 2)) (xs (6 * n + 3)) true).2) (vp_updL f 0 (lb false))) s H locs := hB
        refine lv_istore (lv' := [(6, .int (bi ((m_Mo_fit τ (xs (6 * n + 1)) (xs (6 * n + 2)) (xs (6 * n + 3)) true).1))), (5, .int 0), (0, .ref b), (1, .ref (G 0 0)), (2, .ref (Gm 4 0)), (3, .ref o), (4, .int (nI (6 * n)))]) hx hb d_Law_law_1158 hl (by decide) rfl (fun ls hl => ?_)
        refine lv_aload_n hx hb d_Law_law_1160 rfl (lv_at hl 4 rfl) ?_
        refine kV hC hB _ lkM_o rfl (c_Mo_thrown ((m_Mo_fit τ (xs (6 * n + 1)) (xs (6 * n + 2)) (xs (6 * n + 3)) true).2) rfl) allw_ok mf_Mo_thrown kw_950 kw_951 kw_949 ⟨rfl, rfl, Nat.le_of_ble_eq_true rfl, Nat.le_of_ble_eq_true rfl⟩ rfl rfl hl.1 (Nat.le_of_ble_eq_true rfl) d_Law_law_1161 ⟨by omega, by omega⟩ (roK fun H locs hB => ?_)
        refine lv_iload hx hb d_Law_law_1164 (lv_at hl 1 rfl) ?_
        refine lv_icmp_eq (tgt := 1171) hx hb d_Law_law_1166 (by decide) (fun c_1 => ?_) (fun c_1 => absurd h0 c_1)
        refine lv_iload hx hb d_Law_law_1171 (lv_at hl 1 rfl) ?_
        refine lv_if_ne (tgt := 1195) hx hb d_Law_law_1173 (by decide) (fun c_2 => absurd rfl c_2) (fun c_2 => ?_)
        refine lv_aload_n hx hb d_Law_law_1176 rfl (lv_at hl 5 rfl) ?_
        refine lv_iconst (v := 0) hx hb d_Law_law_1177 (by decide) ?_
        refine va_lald hx hb hC.2.2.2.2.2.2.2.1.1 hB.1 12 1 wB_out rfl vin0 d_Law_law_1178 ?_
        refine lv_iload hx hb d_Law_law_1179 (lv_at hl 0 rfl) ?_
        refine lv_if_eq (tgt := 1188) hx hb d_Law_law_1181 (by decide) (fun c_3 => ?_) (fun c_3 => absurd (by rw [← hv]; rfl) c_3)
        refine lv_lconst (v := 0) hx hb d_Law_law_1188 (by decide) ?_
        refine W.lcmp hx hb d_Law_law_1189 ?_
        refine lv_if_eq (tgt := 1195) hx hb d_Law_law_1190 (by decide) (fun c_4 => ?_) (fun c_4 => absurd (cmp0.mpr rfl) c_4)
        refine lv_goto (tgt := 1662) hx hb d_Law_law_1195 (by decide) ?_
        exact hN _ π ((m_Mo_fit τ (xs (6 * n + 1)) (xs (6 * n + 2)) (xs (6 * n + 3)) true).2) _ _ _ _ _ ls hπ hRL (cst_up hc hns (by omega) (by omega)) (bd_perm hB wAB.symm) (lv_sub hl [2, 3, 4, 5, 6] rfl)
      · refine lv_aload_n hx hb d_Law_law_1083 rfl (lv_at hl 1 rfl) ?_
        refine rdj hK hn hB.2.2 (lv_at hl 0 rfl) (lv_at hl 4 rfl) (j := 1) (by decide) d_Law_law_1084 d_Law_law_1085 d_Law_law_1087 (by decide) d_Law_law_1088 d_Law_law_1089 ?_
        refine rdj hK hn hB.2.2 (lv_at hl 0 rfl) (lv_at hl 4 rfl) (j := 2) (by decide) d_Law_law_1090 d_Law_law_1091 d_Law_law_1093 (by decide) d_Law_law_1094 d_Law_law_1095 ?_
        refine rdj hK hn hB.2.2 (lv_at hl 0 rfl) (lv_at hl 4 rfl) (j := 3) (by decide) d_Law_law_1096 d_Law_law_1097 d_Law_law_1099 (by decide) d_Law_law_1100 d_Law_law_1101 ?_
        refine rdj hK hn hB.2.2 (lv_at hl 0 rfl) (lv_at hl 4 rfl) (j := 4) (by decide) d_Law_law_1102 d_Law_law_1103 d_Law_law_1105 (by decide) d_Law_law_1106 d_Law_law_1107 ?_
        refine lv_if_eq (tgt := 1115) hx hb d_Law_law_1108 (by decide) (fun c_9 => absurd c_9 hz) (fun c_9 => ?_)
        refine lv_iconst (v := 1) hx hb d_Law_law_1111 (by decide) ?_
        refine lv_goto (tgt := 1116) hx hb d_Law_law_1112 (by decide) ?_
        refine lv_aload_n hx hb d_Law_law_1116 rfl (lv_at hl 3 rfl) ?_
        have hv40 := vlM_fit hR hM
        refine kSW hC hSW (Nat.le_refl _) hB (h_fit σ π hπ o f (xs (6 * n + 1)) (xs (6 * n + 2)) (xs (6 * n + 3)) true (true, σ2) hM) allw_ok kw_791 kw_0 ⟨by decide, by decide⟩ (n := 6) (by decide +kernel) kw_790 kw_789 ⟨rfl, rfl, Nat.le_of_ble_eq_true rfl, Nat.le_of_ble_eq_true rfl⟩ rfl rfl hl.1 (Nat.le_of_ble_eq_true rfl) d_Law_law_1117 ⟨by omega, by omega⟩ (fun H locs w hw hB => ?_)
        obtain ⟨π, hπ, rfl⟩ := hw
        have hB : bd D classes s.heap.size s.heap.size (wB G Gm cI cL cQ o σ2 π τ (vp_updL f 0 (lb true))) s H locs := bd_perm hB wAB
        refine lv_istore (lv' := [(5, .int 0), (0, .ref b), (1, .ref (G 0 0)), (2, .ref (Gm 4 0)), (3, .ref o), (4, .int (nI (6 * n)))]) hx hb d_Law_law_1120 hl (by decide) rfl (fun ls hl => ?_)
        refine lv_aload_n hx hb d_Law_law_1122 rfl (lv_at hl 3 rfl) ?_
        refine rdj hK hn hB.2.2 (lv_at hl 1 rfl) (lv_at hl 5 rfl) (j := 1) (by decide) d_Law_law_1123 d_Law_law_1124 d_Law_law_1126 (by decide) d_Law_law_1127 d_Law_law_1128 ?_
        refine rdj hK hn hB.2.2 (lv_at hl 1 rfl) (lv_at hl 5 rfl) (j := 2) (by decide) d_Law_law_1129 d_Law_law_1130 d_Law_law_1132 (by decide) d_Law_law_1133 d_Law_law_1134 ?_
        refine rdj hK hn hB.2.2 (lv_at hl 1 rfl) (lv_at hl 5 rfl) (j := 3) (by decide) d_Law_law_1135 d_Law_law_1136 d_Law_law_1138 (by decide) d_Law_law_1139 d_Law_law_1140 ?_
        refine rdj hK hn hB.2.2 (lv_at hl 1 rfl) (lv_at hl 5 rfl) (j := 4) (by decide) d_Law_law_1141 d_Law_law_1142 d_Law_law_1144 (by decide) d_Law_law_1145 d_Law_law_1146 ?_
        refine lv_if_eq (tgt := 1154) hx hb d_Law_law_1147 (by decide) (fun c_9 => absurd c_9 hz) (fun c_9 => ?_)
        refine lv_iconst (v := 1) hx hb d_Law_law_1150 (by decide) ?_
        refine lv_goto (tgt := 1155) hx hb d_Law_law_1151 (by decide) ?_
        refine kV hC hB _ lkM_o rfl (c_Mo_fit τ (xs (6 * n + 1)) (xs (6 * n + 2)) (xs (6 * n + 3)) true (eq_true ok1)) allw_ok mf_Mo_fit kw_1126 kw_1127 kw_1125 ⟨rfl, rfl, Nat.le_of_ble_eq_true rfl, Nat.le_of_ble_eq_true rfl⟩ rfl rfl hl.1 (Nat.le_of_ble_eq_true rfl) d_Law_law_1155 ⟨by omega, by omega⟩ (fun H locs w hw hB => ?_)
        subst hw
        have hB : bd D classes s.heap.size s.heap.size (wB G Gm cI cL cQ o σ2 π ((m_Mo_fit τ (xs (6 * n + 1)) (xs (6 * n + 2)) (xs (6 * n + 3)) true).2) (vp_updL f 0 (lb true))) s H locs := hB
        refine lv_istore (lv' := [(6, .int (bi ((m_Mo_fit τ (xs (6 * n + 1)) (xs (6 * n + 2)) (xs (6 * n + 3)) true).1))), (5, .int 0), (0, .ref b), (1, .ref (G 0 0)), (2, .ref (Gm 4 0)), (3, .ref o), (4, .int (nI (6 * n)))]) hx hb d_Law_law_1158 hl (by decide) rfl (fun ls hl => ?_)
        refine lv_aload_n hx hb d_Law_law_1160 rfl (lv_at hl 4 rfl) ?_
        refine kV hC hB _ lkM_o rfl (c_Mo_thrown ((m_Mo_fit τ (xs (6 * n + 1)) (xs (6 * n + 2)) (xs (6 * n + 3)) true).2) rfl) allw_ok mf_Mo_thrown kw_950 kw_951 kw_949 ⟨rfl, rfl, Nat.le_of_ble_eq_true rfl, Nat.le_of_ble_eq_true rfl⟩ rfl rfl hl.1 (Nat.le_of_ble_eq_true rfl) d_Law_law_1161 ⟨by omega, by omega⟩ (roK fun H locs hB => ?_)
        refine lv_iload hx hb d_Law_law_1164 (lv_at hl 1 rfl) ?_
        refine lv_icmp_eq (tgt := 1171) hx hb d_Law_law_1166 (by decide) (fun c_1 => ?_) (fun c_1 => absurd h0 c_1)
        refine lv_iload hx hb d_Law_law_1171 (lv_at hl 1 rfl) ?_
        refine lv_if_ne (tgt := 1195) hx hb d_Law_law_1173 (by decide) (fun c_2 => absurd rfl c_2) (fun c_2 => ?_)
        refine lv_aload_n hx hb d_Law_law_1176 rfl (lv_at hl 5 rfl) ?_
        refine lv_iconst (v := 0) hx hb d_Law_law_1177 (by decide) ?_
        refine va_lald hx hb hC.2.2.2.2.2.2.2.1.1 hB.1 12 1 wB_out rfl vin0 d_Law_law_1178 ?_
        refine lv_iload hx hb d_Law_law_1179 (lv_at hl 0 rfl) ?_
        refine lv_if_eq (tgt := 1188) hx hb d_Law_law_1181 (by decide) (fun c_3 => absurd c_3 (by rw [← hv]; decide)) (fun c_3 => ?_)
        refine lv_lconst (v := 1) hx hb d_Law_law_1184 (by decide) ?_
        refine lv_goto (tgt := 1189) hx hb d_Law_law_1185 (by decide) ?_
        refine W.lcmp hx hb d_Law_law_1189 ?_
        refine lv_if_eq (tgt := 1195) hx hb d_Law_law_1190 (by decide) (fun c_4 => ?_) (fun c_4 => absurd (cmp0.mpr rfl) c_4)
        refine lv_goto (tgt := 1662) hx hb d_Law_law_1195 (by decide) ?_
        exact hN _ π ((m_Mo_fit τ (xs (6 * n + 1)) (xs (6 * n + 2)) (xs (6 * n + 3)) true).2) _ _ _ _ _ ls hπ hRL (cst_up hc hns (by omega) (by omega)) (bd_perm hB wAB.symm) (lv_sub hl [2, 3, 4, 5, 6] rfl)
set_option maxHeartbeats 1000000 in
set_option maxRecDepth 100000 in
theorem lw_valueOf (hK : LC D cI cL cQ p l s m meth c b L xs) {n : Nat} (hn : 6 * n + 6 ≤ L) (hN : NX D G Gm cI cL cQ o p l e s m below meth c b n) {σ : SC} {π : PJ} {τ : SM} {f : Nat → Int64} {H : Heap} {locs : List Loc} {cells slots : Nat} {ls : Array Slot} (hπ : RJ π σ) (hR : RL n σ τ) (hc : cst n σ cells slots) (hB : bd D classes s.heap.size s.heap.size (wA G Gm cI cL cQ o σ π τ f) s H locs) (hl : lv_has ls 8 [(0, .ref b), (1, .ref (G 0 0)), (2, .ref (Gm 4 0)), (3, .ref o), (4, .int (nI (6 * n)))]) : WL p l e s m below meth c b H locs cells slots (F0 m 1198 ls []) := by
  obtain ⟨hC, hSW, htl, hX, hbl, hL⟩ := id hK
  have hx := hC.1
  have hb := hC.2.1
  obtain ⟨hr1, hr2⟩ := cst_room hc hR (by omega)
  obtain ⟨ok1, ok2⟩ := op_valueOf (c := n) (by omega) hR (xs (6 * n + 1)) (xs (6 * n + 2)) (xs (6 * n + 3))
  rcases ok2 with ⟨hM, h0, hRL⟩ | ⟨v, hM, h0, hv, hRL⟩
  · refine lv_aload_n hx hb d_Law_law_1198 rfl (lv_at hl 1 rfl) ?_
    refine rdj hK hn hB.2.2 (lv_at hl 0 rfl) (lv_at hl 4 rfl) (j := 1) (by decide) d_Law_law_1199 d_Law_law_1200 d_Law_law_1202 (by decide) d_Law_law_1203 d_Law_law_1204 ?_
    refine rdj hK hn hB.2.2 (lv_at hl 0 rfl) (lv_at hl 4 rfl) (j := 2) (by decide) d_Law_law_1205 d_Law_law_1206 d_Law_law_1208 (by decide) d_Law_law_1209 d_Law_law_1210 ?_
    refine rdj hK hn hB.2.2 (lv_at hl 0 rfl) (lv_at hl 4 rfl) (j := 3) (by decide) d_Law_law_1211 d_Law_law_1212 d_Law_law_1214 (by decide) d_Law_law_1215 d_Law_law_1216 ?_
    refine lv_aload_n hx hb d_Law_law_1217 rfl (lv_at hl 3 rfl) ?_
    refine kSW hC hSW (Nat.le_refl _) hB (ht_valueOf htl σ π hπ o f (xs (6 * n + 1)) (xs (6 * n + 2)) (xs (6 * n + 3)) hM) allw_ok kw_798 kw_0 ⟨by decide, by decide⟩ (n := 5) (by decide +kernel) kw_797 kw_796 ⟨rfl, rfl, Nat.le_of_ble_eq_true rfl, Nat.le_of_ble_eq_true rfl⟩ rfl rfl hl.1 (Nat.le_of_ble_eq_true rfl) d_Law_law_1218 ⟨by omega, by omega⟩ (fun H locs w hw hB => ?_)
    obtain ⟨π, hπ, rfl⟩ := hw
    have hB : bd D classes s.heap.size s.heap.size (wB G Gm cI cL cQ o σ π τ f) s H locs := bd_perm hB wAB
    refine lv_istore (lv' := [(5, .int 1), (0, .ref b), (1, .ref (G 0 0)), (2, .ref (Gm 4 0)), (3, .ref o), (4, .int (nI (6 * n)))]) hx hb d_Law_law_1221 hl (by decide) rfl (fun ls hl => ?_)
    refine lv_aload_n hx hb d_Law_law_1223 rfl (lv_at hl 3 rfl) ?_
    refine rdj hK hn hB.2.2 (lv_at hl 1 rfl) (lv_at hl 5 rfl) (j := 1) (by decide) d_Law_law_1224 d_Law_law_1225 d_Law_law_1227 (by decide) d_Law_law_1228 d_Law_law_1229 ?_
    refine rdj hK hn hB.2.2 (lv_at hl 1 rfl) (lv_at hl 5 rfl) (j := 2) (by decide) d_Law_law_1230 d_Law_law_1231 d_Law_law_1233 (by decide) d_Law_law_1234 d_Law_law_1235 ?_
    refine rdj hK hn hB.2.2 (lv_at hl 1 rfl) (lv_at hl 5 rfl) (j := 3) (by decide) d_Law_law_1236 d_Law_law_1237 d_Law_law_1239 (by decide) d_Law_law_1240 d_Law_law_1241 ?_
    refine kV hC hB _ lkM_o rfl (c_Mo_valueOf τ (xs (6 * n + 1)) (xs (6 * n + 2)) (xs (6 * n + 3)) (eq_true ok1)) allw_ok mf_Mo_valueOf kw_1130 kw_1131 kw_1129 ⟨rfl, rfl, Nat.le_of_ble_eq_true rfl, Nat.le_of_ble_eq_true rfl⟩ rfl rfl hl.1 (Nat.le_of_ble_eq_true rfl) d_Law_law_1242 ⟨by omega, by omega⟩ (fun H locs w hw hB => ?_)
    subst hw
    have hB : bd D classes s.heap.size s.heap.size (wB G Gm cI cL cQ o σ π ((m_Mo_valueOf τ (xs (6 * n + 1)) (xs (6 * n + 2)) (xs (6 * n + 3))).2) f) s H locs := hB
    refine lv_lstore (lv' := [(6, .long ((m_Mo_valueOf τ (xs (6 * n + 1)) (xs (6 * n + 2)) (xs (6 * n + 3))).1)), (5, .int 1), (0, .ref b), (1, .ref (G 0 0)), (2, .ref (Gm 4 0)), (3, .ref o), (4, .int (nI (6 * n)))]) hx hb d_Law_law_1245 hl (by decide) rfl (fun ls hl => ?_)
    refine lv_aload_n hx hb d_Law_law_1247 rfl (lv_at hl 4 rfl) ?_
    refine kV hC hB _ lkM_o rfl (c_Mo_thrown ((m_Mo_valueOf τ (xs (6 * n + 1)) (xs (6 * n + 2)) (xs (6 * n + 3))).2) rfl) allw_ok mf_Mo_thrown kw_950 kw_951 kw_949 ⟨rfl, rfl, Nat.le_of_ble_eq_true rfl, Nat.le_of_ble_eq_true rfl⟩ rfl rfl hl.1 (Nat.le_of_ble_eq_true rfl) d_Law_law_1248 ⟨by omega, by omega⟩ (roK fun H locs hB => ?_)
    refine lv_iload hx hb d_Law_law_1251 (lv_at hl 1 rfl) ?_
    refine lv_icmp_eq (tgt := 1258) hx hb d_Law_law_1253 (by decide) (fun c_1 => ?_) (fun c_1 => absurd h0 c_1)
    refine lv_iload hx hb d_Law_law_1258 (lv_at hl 1 rfl) ?_
    refine lv_if_ne (tgt := 1274) hx hb d_Law_law_1260 (by decide) (fun c_2 => ?_) (fun c_2 => absurd c_2 (by decide))
    refine lv_goto (tgt := 1662) hx hb d_Law_law_1274 (by decide) ?_
    exact hN _ π ((m_Mo_valueOf τ (xs (6 * n + 1)) (xs (6 * n + 2)) (xs (6 * n + 3))).2) _ _ _ _ _ ls hπ hRL (cst_up hc (Nat.le_succ _) (by omega) (by omega)) (bd_perm hB wAB.symm) (lv_sub hl [2, 3, 4, 5, 6] rfl)
  · refine lv_aload_n hx hb d_Law_law_1198 rfl (lv_at hl 1 rfl) ?_
    refine rdj hK hn hB.2.2 (lv_at hl 0 rfl) (lv_at hl 4 rfl) (j := 1) (by decide) d_Law_law_1199 d_Law_law_1200 d_Law_law_1202 (by decide) d_Law_law_1203 d_Law_law_1204 ?_
    refine rdj hK hn hB.2.2 (lv_at hl 0 rfl) (lv_at hl 4 rfl) (j := 2) (by decide) d_Law_law_1205 d_Law_law_1206 d_Law_law_1208 (by decide) d_Law_law_1209 d_Law_law_1210 ?_
    refine rdj hK hn hB.2.2 (lv_at hl 0 rfl) (lv_at hl 4 rfl) (j := 3) (by decide) d_Law_law_1211 d_Law_law_1212 d_Law_law_1214 (by decide) d_Law_law_1215 d_Law_law_1216 ?_
    refine lv_aload_n hx hb d_Law_law_1217 rfl (lv_at hl 3 rfl) ?_
    refine kSW hC hSW (Nat.le_refl _) hB (h_valueOf σ π hπ o f (xs (6 * n + 1)) (xs (6 * n + 2)) (xs (6 * n + 3)) v hM) allw_ok kw_798 kw_0 ⟨by decide, by decide⟩ (n := 5) (by decide +kernel) kw_797 kw_796 ⟨rfl, rfl, Nat.le_of_ble_eq_true rfl, Nat.le_of_ble_eq_true rfl⟩ rfl rfl hl.1 (Nat.le_of_ble_eq_true rfl) d_Law_law_1218 ⟨by omega, by omega⟩ (fun H locs w hw hB => ?_)
    obtain ⟨π, hπ, rfl⟩ := hw
    have hB : bd D classes s.heap.size s.heap.size (wB G Gm cI cL cQ o σ π τ (vp_updL f 0 v)) s H locs := bd_perm hB wAB
    refine lv_istore (lv' := [(5, .int 0), (0, .ref b), (1, .ref (G 0 0)), (2, .ref (Gm 4 0)), (3, .ref o), (4, .int (nI (6 * n)))]) hx hb d_Law_law_1221 hl (by decide) rfl (fun ls hl => ?_)
    refine lv_aload_n hx hb d_Law_law_1223 rfl (lv_at hl 3 rfl) ?_
    refine rdj hK hn hB.2.2 (lv_at hl 1 rfl) (lv_at hl 5 rfl) (j := 1) (by decide) d_Law_law_1224 d_Law_law_1225 d_Law_law_1227 (by decide) d_Law_law_1228 d_Law_law_1229 ?_
    refine rdj hK hn hB.2.2 (lv_at hl 1 rfl) (lv_at hl 5 rfl) (j := 2) (by decide) d_Law_law_1230 d_Law_law_1231 d_Law_law_1233 (by decide) d_Law_law_1234 d_Law_law_1235 ?_
    refine rdj hK hn hB.2.2 (lv_at hl 1 rfl) (lv_at hl 5 rfl) (j := 3) (by decide) d_Law_law_1236 d_Law_law_1237 d_Law_law_1239 (by decide) d_Law_law_1240 d_Law_law_1241 ?_
    refine kV hC hB _ lkM_o rfl (c_Mo_valueOf τ (xs (6 * n + 1)) (xs (6 * n + 2)) (xs (6 * n + 3)) (eq_true ok1)) allw_ok mf_Mo_valueOf kw_1130 kw_1131 kw_1129 ⟨rfl, rfl, Nat.le_of_ble_eq_true rfl, Nat.le_of_ble_eq_true rfl⟩ rfl rfl hl.1 (Nat.le_of_ble_eq_true rfl) d_Law_law_1242 ⟨by omega, by omega⟩ (fun H locs w hw hB => ?_)
    subst hw
    have hB : bd D classes s.heap.size s.heap.size (wB G Gm cI cL cQ o σ π ((m_Mo_valueOf τ (xs (6 * n + 1)) (xs (6 * n + 2)) (xs (6 * n + 3))).2) (vp_updL f 0 v)) s H locs := hB
    refine lv_lstore (lv' := [(6, .long ((m_Mo_valueOf τ (xs (6 * n + 1)) (xs (6 * n + 2)) (xs (6 * n + 3))).1)), (5, .int 0), (0, .ref b), (1, .ref (G 0 0)), (2, .ref (Gm 4 0)), (3, .ref o), (4, .int (nI (6 * n)))]) hx hb d_Law_law_1245 hl (by decide) rfl (fun ls hl => ?_)
    refine lv_aload_n hx hb d_Law_law_1247 rfl (lv_at hl 4 rfl) ?_
    refine kV hC hB _ lkM_o rfl (c_Mo_thrown ((m_Mo_valueOf τ (xs (6 * n + 1)) (xs (6 * n + 2)) (xs (6 * n + 3))).2) rfl) allw_ok mf_Mo_thrown kw_950 kw_951 kw_949 ⟨rfl, rfl, Nat.le_of_ble_eq_true rfl, Nat.le_of_ble_eq_true rfl⟩ rfl rfl hl.1 (Nat.le_of_ble_eq_true rfl) d_Law_law_1248 ⟨by omega, by omega⟩ (roK fun H locs hB => ?_)
    refine lv_iload hx hb d_Law_law_1251 (lv_at hl 1 rfl) ?_
    refine lv_icmp_eq (tgt := 1258) hx hb d_Law_law_1253 (by decide) (fun c_1 => ?_) (fun c_1 => absurd h0 c_1)
    refine lv_iload hx hb d_Law_law_1258 (lv_at hl 1 rfl) ?_
    refine lv_if_ne (tgt := 1274) hx hb d_Law_law_1260 (by decide) (fun c_2 => absurd rfl c_2) (fun c_2 => ?_)
    refine lv_aload_n hx hb d_Law_law_1263 rfl (lv_at hl 5 rfl) ?_
    refine lv_iconst (v := 0) hx hb d_Law_law_1264 (by decide) ?_
    refine va_lald hx hb hC.2.2.2.2.2.2.2.1.1 hB.1 12 1 wB_out rfl vin0 d_Law_law_1265 ?_
    refine lv_lload hx hb d_Law_law_1266 (lv_at hl 0 rfl) ?_
    refine W.lcmp hx hb d_Law_law_1268 ?_
    refine lv_if_eq (tgt := 1274) hx hb d_Law_law_1269 (by decide) (fun c_4 => ?_) (fun c_4 => absurd (cmp0.mpr hv) c_4)
    refine lv_goto (tgt := 1662) hx hb d_Law_law_1274 (by decide) ?_
    exact hN _ π ((m_Mo_valueOf τ (xs (6 * n + 1)) (xs (6 * n + 2)) (xs (6 * n + 3))).2) _ _ _ _ _ ls hπ hRL (cst_up hc (Nat.le_succ _) (by omega) (by omega)) (bd_perm hB wAB.symm) (lv_sub hl [2, 3, 4, 5, 6] rfl)
set_option maxHeartbeats 1000000 in
set_option maxRecDepth 100000 in
theorem lw_fitted (hK : LC D cI cL cQ p l s m meth c b L xs) {n : Nat} (hn : 6 * n + 6 ≤ L) (hN : NX D G Gm cI cL cQ o p l e s m below meth c b n) {σ : SC} {π : PJ} {τ : SM} {f : Nat → Int64} {H : Heap} {locs : List Loc} {cells slots : Nat} {ls : Array Slot} (hπ : RJ π σ) (hR : RL n σ τ) (hc : cst n σ cells slots) (hB : bd D classes s.heap.size s.heap.size (wA G Gm cI cL cQ o σ π τ f) s H locs) (hl : lv_has ls 8 [(0, .ref b), (1, .ref (G 0 0)), (2, .ref (Gm 4 0)), (3, .ref o), (4, .int (nI (6 * n)))]) : WL p l e s m below meth c b H locs cells slots (F0 m 1277 ls []) := by
  obtain ⟨hC, hSW, htl, hX, hbl, hL⟩ := id hK
  have hx := hC.1
  have hb := hC.2.1
  obtain ⟨hr1, hr2⟩ := cst_room hc hR (by omega)
  obtain ⟨ok1, ok2⟩ := op_fitted (c := n) (by omega) hR (xs (6 * n + 1)) (xs (6 * n + 2)) (xs (6 * n + 3))
  rcases ok2 with ⟨hM, h0, hRL⟩ | ⟨v, hM, h0, hv, hRL⟩
  · refine lv_aload_n hx hb d_Law_law_1277 rfl (lv_at hl 1 rfl) ?_
    refine rdj hK hn hB.2.2 (lv_at hl 0 rfl) (lv_at hl 4 rfl) (j := 1) (by decide) d_Law_law_1278 d_Law_law_1279 d_Law_law_1281 (by decide) d_Law_law_1282 d_Law_law_1283 ?_
    refine rdj hK hn hB.2.2 (lv_at hl 0 rfl) (lv_at hl 4 rfl) (j := 2) (by decide) d_Law_law_1284 d_Law_law_1285 d_Law_law_1287 (by decide) d_Law_law_1288 d_Law_law_1289 ?_
    refine rdj hK hn hB.2.2 (lv_at hl 0 rfl) (lv_at hl 4 rfl) (j := 3) (by decide) d_Law_law_1290 d_Law_law_1291 d_Law_law_1293 (by decide) d_Law_law_1294 d_Law_law_1295 ?_
    refine lv_aload_n hx hb d_Law_law_1296 rfl (lv_at hl 3 rfl) ?_
    refine kSW hC hSW (Nat.le_refl _) hB (ht_fitted htl σ π hπ o f (xs (6 * n + 1)) (xs (6 * n + 2)) (xs (6 * n + 3)) hM) allw_ok kw_814 kw_0 ⟨by decide, by decide⟩ (n := 5) (by decide +kernel) kw_813 kw_812 ⟨rfl, rfl, Nat.le_of_ble_eq_true rfl, Nat.le_of_ble_eq_true rfl⟩ rfl rfl hl.1 (Nat.le_of_ble_eq_true rfl) d_Law_law_1297 ⟨by omega, by omega⟩ (fun H locs w hw hB => ?_)
    obtain ⟨π, hπ, rfl⟩ := hw
    have hB : bd D classes s.heap.size s.heap.size (wB G Gm cI cL cQ o σ π τ f) s H locs := bd_perm hB wAB
    refine lv_istore (lv' := [(5, .int 1), (0, .ref b), (1, .ref (G 0 0)), (2, .ref (Gm 4 0)), (3, .ref o), (4, .int (nI (6 * n)))]) hx hb d_Law_law_1300 hl (by decide) rfl (fun ls hl => ?_)
    refine lv_aload_n hx hb d_Law_law_1302 rfl (lv_at hl 3 rfl) ?_
    refine rdj hK hn hB.2.2 (lv_at hl 1 rfl) (lv_at hl 5 rfl) (j := 1) (by decide) d_Law_law_1303 d_Law_law_1304 d_Law_law_1306 (by decide) d_Law_law_1307 d_Law_law_1308 ?_
    refine rdj hK hn hB.2.2 (lv_at hl 1 rfl) (lv_at hl 5 rfl) (j := 2) (by decide) d_Law_law_1309 d_Law_law_1310 d_Law_law_1312 (by decide) d_Law_law_1313 d_Law_law_1314 ?_
    refine rdj hK hn hB.2.2 (lv_at hl 1 rfl) (lv_at hl 5 rfl) (j := 3) (by decide) d_Law_law_1315 d_Law_law_1316 d_Law_law_1318 (by decide) d_Law_law_1319 d_Law_law_1320 ?_
    refine kV hC hB _ lkM_o rfl (c_Mo_fitted τ (xs (6 * n + 1)) (xs (6 * n + 2)) (xs (6 * n + 3)) (eq_true ok1)) allw_ok mf_Mo_fitted kw_1138 kw_1139 kw_1137 ⟨rfl, rfl, Nat.le_of_ble_eq_true rfl, Nat.le_of_ble_eq_true rfl⟩ rfl rfl hl.1 (Nat.le_of_ble_eq_true rfl) d_Law_law_1321 ⟨by omega, by omega⟩ (fun H locs w hw hB => ?_)
    subst hw
    have hB : bd D classes s.heap.size s.heap.size (wB G Gm cI cL cQ o σ π ((m_Mo_fitted τ (xs (6 * n + 1)) (xs (6 * n + 2)) (xs (6 * n + 3))).2) f) s H locs := hB
    refine lv_istore (lv' := [(6, .int (bi ((m_Mo_fitted τ (xs (6 * n + 1)) (xs (6 * n + 2)) (xs (6 * n + 3))).1))), (5, .int 1), (0, .ref b), (1, .ref (G 0 0)), (2, .ref (Gm 4 0)), (3, .ref o), (4, .int (nI (6 * n)))]) hx hb d_Law_law_1324 hl (by decide) rfl (fun ls hl => ?_)
    refine lv_aload_n hx hb d_Law_law_1326 rfl (lv_at hl 4 rfl) ?_
    refine kV hC hB _ lkM_o rfl (c_Mo_thrown ((m_Mo_fitted τ (xs (6 * n + 1)) (xs (6 * n + 2)) (xs (6 * n + 3))).2) rfl) allw_ok mf_Mo_thrown kw_950 kw_951 kw_949 ⟨rfl, rfl, Nat.le_of_ble_eq_true rfl, Nat.le_of_ble_eq_true rfl⟩ rfl rfl hl.1 (Nat.le_of_ble_eq_true rfl) d_Law_law_1327 ⟨by omega, by omega⟩ (roK fun H locs hB => ?_)
    refine lv_iload hx hb d_Law_law_1330 (lv_at hl 1 rfl) ?_
    refine lv_icmp_eq (tgt := 1337) hx hb d_Law_law_1332 (by decide) (fun c_1 => ?_) (fun c_1 => absurd h0 c_1)
    refine lv_iload hx hb d_Law_law_1337 (lv_at hl 1 rfl) ?_
    refine lv_if_ne (tgt := 1361) hx hb d_Law_law_1339 (by decide) (fun c_2 => ?_) (fun c_2 => absurd c_2 (by decide))
    refine lv_goto (tgt := 1662) hx hb d_Law_law_1361 (by decide) ?_
    exact hN _ π ((m_Mo_fitted τ (xs (6 * n + 1)) (xs (6 * n + 2)) (xs (6 * n + 3))).2) _ _ _ _ _ ls hπ hRL (cst_up hc (Nat.le_succ _) (by omega) (by omega)) (bd_perm hB wAB.symm) (lv_sub hl [2, 3, 4, 5, 6] rfl)
  · rcases v with _ | _
    · refine lv_aload_n hx hb d_Law_law_1277 rfl (lv_at hl 1 rfl) ?_
      refine rdj hK hn hB.2.2 (lv_at hl 0 rfl) (lv_at hl 4 rfl) (j := 1) (by decide) d_Law_law_1278 d_Law_law_1279 d_Law_law_1281 (by decide) d_Law_law_1282 d_Law_law_1283 ?_
      refine rdj hK hn hB.2.2 (lv_at hl 0 rfl) (lv_at hl 4 rfl) (j := 2) (by decide) d_Law_law_1284 d_Law_law_1285 d_Law_law_1287 (by decide) d_Law_law_1288 d_Law_law_1289 ?_
      refine rdj hK hn hB.2.2 (lv_at hl 0 rfl) (lv_at hl 4 rfl) (j := 3) (by decide) d_Law_law_1290 d_Law_law_1291 d_Law_law_1293 (by decide) d_Law_law_1294 d_Law_law_1295 ?_
      refine lv_aload_n hx hb d_Law_law_1296 rfl (lv_at hl 3 rfl) ?_
      refine kSW hC hSW (Nat.le_refl _) hB (h_fitted σ π hπ o f (xs (6 * n + 1)) (xs (6 * n + 2)) (xs (6 * n + 3)) false hM) allw_ok kw_814 kw_0 ⟨by decide, by decide⟩ (n := 5) (by decide +kernel) kw_813 kw_812 ⟨rfl, rfl, Nat.le_of_ble_eq_true rfl, Nat.le_of_ble_eq_true rfl⟩ rfl rfl hl.1 (Nat.le_of_ble_eq_true rfl) d_Law_law_1297 ⟨by omega, by omega⟩ (fun H locs w hw hB => ?_)
      obtain ⟨π, hπ, rfl⟩ := hw
      have hB : bd D classes s.heap.size s.heap.size (wB G Gm cI cL cQ o σ π τ (vp_updL f 0 (lb false))) s H locs := bd_perm hB wAB
      refine lv_istore (lv' := [(5, .int 0), (0, .ref b), (1, .ref (G 0 0)), (2, .ref (Gm 4 0)), (3, .ref o), (4, .int (nI (6 * n)))]) hx hb d_Law_law_1300 hl (by decide) rfl (fun ls hl => ?_)
      refine lv_aload_n hx hb d_Law_law_1302 rfl (lv_at hl 3 rfl) ?_
      refine rdj hK hn hB.2.2 (lv_at hl 1 rfl) (lv_at hl 5 rfl) (j := 1) (by decide) d_Law_law_1303 d_Law_law_1304 d_Law_law_1306 (by decide) d_Law_law_1307 d_Law_law_1308 ?_
      refine rdj hK hn hB.2.2 (lv_at hl 1 rfl) (lv_at hl 5 rfl) (j := 2) (by decide) d_Law_law_1309 d_Law_law_1310 d_Law_law_1312 (by decide) d_Law_law_1313 d_Law_law_1314 ?_
      refine rdj hK hn hB.2.2 (lv_at hl 1 rfl) (lv_at hl 5 rfl) (j := 3) (by decide) d_Law_law_1315 d_Law_law_1316 d_Law_law_1318 (by decide) d_Law_law_1319 d_Law_law_1320 ?_
      refine kV hC hB _ lkM_o rfl (c_Mo_fitted τ (xs (6 * n + 1)) (xs (6 * n + 2)) (xs (6 * n + 3)) (eq_true ok1)) allw_ok mf_Mo_fitted kw_1138 kw_1139 kw_1137 ⟨rfl, rfl, Nat.le_of_ble_eq_true rfl, Nat.le_of_ble_eq_true rfl⟩ rfl rfl hl.1 (Nat.le_of_ble_eq_true rfl) d_Law_law_1321 ⟨by omega, by omega⟩ (fun H locs w hw hB => ?_)
      subst hw
      have hB : bd D classes s.heap.size s.heap.size (wB G Gm cI cL cQ o σ π ((m_Mo_fitted τ (xs (6 * n + 1)) (xs (6 * n + 2)) (xs (6 * n + 3))).2) (vp_updL f 0 (lb false))) s H locs := hB
      refine lv_istore (lv' := [(6, .int (bi ((m_Mo_fitted τ (xs (6 * n + 1)) (xs (6 * n + 2)) (xs (6 * n + 3))).1))), (5, .int 0), (0, .ref b), (1, .ref (G 0 0)), (2, .ref (Gm 4 0)), (3, .ref o), (4, .int (nI (6 * n)))]) hx hb d_Law_law_1324 hl (by decide) rfl (fun ls hl => ?_)
      refine lv_aload_n hx hb d_Law_law_1326 rfl (lv_at hl 4 rfl) ?_
      refine kV hC hB _ lkM_o rfl (c_Mo_thrown ((m_Mo_fitted τ (xs (6 * n + 1)) (xs (6 * n + 2)) (xs (6 * n + 3))).2) rfl) allw_ok mf_Mo_thrown kw_950 kw_951 kw_949 ⟨rfl, rfl, Nat.le_of_ble_eq_true rfl, Nat.le_of_ble_eq_true rfl⟩ rfl rfl hl.1 (Nat.le_of_ble_eq_true rfl) d_Law_law_1327 ⟨by omega, by omega⟩ (roK fun H locs hB => ?_)
      refine lv_iload hx hb d_Law_law_1330 (lv_at hl 1 rfl) ?_
      refine lv_icmp_eq (tgt := 1337) hx hb d_Law_law_1332 (by decide) (fun c_1 => ?_) (fun c_1 => absurd h0 c_1)
      refine lv_iload hx hb d_Law_law_1337 (lv_at hl 1 rfl) ?_
      refine lv_if_ne (tgt := 1361) hx hb d_Law_law_1339 (by decide) (fun c_2 => absurd rfl c_2) (fun c_2 => ?_)
      refine lv_aload_n hx hb d_Law_law_1342 rfl (lv_at hl 5 rfl) ?_
      refine lv_iconst (v := 0) hx hb d_Law_law_1343 (by decide) ?_
      refine va_lald hx hb hC.2.2.2.2.2.2.2.1.1 hB.1 12 1 wB_out rfl vin0 d_Law_law_1344 ?_
      refine lv_iload hx hb d_Law_law_1345 (lv_at hl 0 rfl) ?_
      refine lv_if_eq (tgt := 1354) hx hb d_Law_law_1347 (by decide) (fun c_3 => ?_) (fun c_3 => absurd (by rw [← hv]; rfl) c_3)
      refine lv_lconst (v := 0) hx hb d_Law_law_1354 (by decide) ?_
      refine W.lcmp hx hb d_Law_law_1355 ?_
      refine lv_if_eq (tgt := 1361) hx hb d_Law_law_1356 (by decide) (fun c_4 => ?_) (fun c_4 => absurd (cmp0.mpr rfl) c_4)
      refine lv_goto (tgt := 1662) hx hb d_Law_law_1361 (by decide) ?_
      exact hN _ π ((m_Mo_fitted τ (xs (6 * n + 1)) (xs (6 * n + 2)) (xs (6 * n + 3))).2) _ _ _ _ _ ls hπ hRL (cst_up hc (Nat.le_succ _) (by omega) (by omega)) (bd_perm hB wAB.symm) (lv_sub hl [2, 3, 4, 5, 6] rfl)
    · refine lv_aload_n hx hb d_Law_law_1277 rfl (lv_at hl 1 rfl) ?_
      refine rdj hK hn hB.2.2 (lv_at hl 0 rfl) (lv_at hl 4 rfl) (j := 1) (by decide) d_Law_law_1278 d_Law_law_1279 d_Law_law_1281 (by decide) d_Law_law_1282 d_Law_law_1283 ?_
      refine rdj hK hn hB.2.2 (lv_at hl 0 rfl) (lv_at hl 4 rfl) (j := 2) (by decide) d_Law_law_1284 d_Law_law_1285 d_Law_law_1287 (by decide) d_Law_law_1288 d_Law_law_1289 ?_
      refine rdj hK hn hB.2.2 (lv_at hl 0 rfl) (lv_at hl 4 rfl) (j := 3) (by decide) d_Law_law_1290 d_Law_law_1291 d_Law_law_1293 (by decide) d_Law_law_1294 d_Law_law_1295 ?_
      refine lv_aload_n hx hb d_Law_law_1296 rfl (lv_at hl 3 rfl) ?_
      refine kSW hC hSW (Nat.le_refl _) hB (h_fitted σ π hπ o f (xs (6 * n + 1)) (xs (6 * n + 2)) (xs (6 * n + 3)) true hM) allw_ok kw_814 kw_0 ⟨by decide, by decide⟩ (n := 5) (by decide +kernel) kw_813 kw_812 ⟨rfl, rfl, Nat.le_of_ble_eq_true rfl, Nat.le_of_ble_eq_true rfl⟩ rfl rfl hl.1 (Nat.le_of_ble_eq_true rfl) d_Law_law_1297 ⟨by omega, by omega⟩ (fun H locs w hw hB => ?_)
      obtain ⟨π, hπ, rfl⟩ := hw
      have hB : bd D classes s.heap.size s.heap.size (wB G Gm cI cL cQ o σ π τ (vp_updL f 0 (lb true))) s H locs := bd_perm hB wAB
      refine lv_istore (lv' := [(5, .int 0), (0, .ref b), (1, .ref (G 0 0)), (2, .ref (Gm 4 0)), (3, .ref o), (4, .int (nI (6 * n)))]) hx hb d_Law_law_1300 hl (by decide) rfl (fun ls hl => ?_)
      refine lv_aload_n hx hb d_Law_law_1302 rfl (lv_at hl 3 rfl) ?_
      refine rdj hK hn hB.2.2 (lv_at hl 1 rfl) (lv_at hl 5 rfl) (j := 1) (by decide) d_Law_law_1303 d_Law_law_1304 d_Law_law_1306 (by decide) d_Law_law_1307 d_Law_law_1308 ?_
      refine rdj hK hn hB.2.2 (lv_at hl 1 rfl) (lv_at hl 5 rfl) (j := 2) (by decide) d_Law_law_1309 d_Law_law_1310 d_Law_law_1312 (by decide) d_Law_law_1313 d_Law_law_1314 ?_
      refine rdj hK hn hB.2.2 (lv_at hl 1 rfl) (lv_at hl 5 rfl) (j := 3) (by decide) d_Law_law_1315 d_Law_law_1316 d_Law_law_1318 (by decide) d_Law_law_1319 d_Law_law_1320 ?_
      refine kV hC hB _ lkM_o rfl (c_Mo_fitted τ (xs (6 * n + 1)) (xs (6 * n + 2)) (xs (6 * n + 3)) (eq_true ok1)) allw_ok mf_Mo_fitted kw_1138 kw_1139 kw_1137 ⟨rfl, rfl, Nat.le_of_ble_eq_true rfl, Nat.le_of_ble_eq_true rfl⟩ rfl rfl hl.1 (Nat.le_of_ble_eq_true rfl) d_Law_law_1321 ⟨by omega, by omega⟩ (fun H locs w hw hB => ?_)
      subst hw
      have hB : bd D classes s.heap.size s.heap.size (wB G Gm cI cL cQ o σ π ((m_Mo_fitted τ (xs (6 * n + 1)) (xs (6 * n + 2)) (xs (6 * n + 3))).2) (vp_updL f 0 (lb true))) s H locs := hB
      refine lv_istore (lv' := [(6, .int (bi ((m_Mo_fitted τ (xs (6 * n + 1)) (xs (6 * n + 2)) (xs (6 * n + 3))).1))), (5, .int 0), (0, .ref b), (1, .ref (G 0 0)), (2, .ref (Gm 4 0)), (3, .ref o), (4, .int (nI (6 * n)))]) hx hb d_Law_law_1324 hl (by decide) rfl (fun ls hl => ?_)
      refine lv_aload_n hx hb d_Law_law_1326 rfl (lv_at hl 4 rfl) ?_
      refine kV hC hB _ lkM_o rfl (c_Mo_thrown ((m_Mo_fitted τ (xs (6 * n + 1)) (xs (6 * n + 2)) (xs (6 * n + 3))).2) rfl) allw_ok mf_Mo_thrown kw_950 kw_951 kw_949 ⟨rfl, rfl, Nat.le_of_ble_eq_true rfl, Nat.le_of_ble_eq_true rfl⟩ rfl rfl hl.1 (Nat.le_of_ble_eq_true rfl) d_Law_law_1327 ⟨by omega, by omega⟩ (roK fun H locs hB => ?_)
      refine lv_iload hx hb d_Law_law_1330 (lv_at hl 1 rfl) ?_
      refine lv_icmp_eq (tgt := 1337) hx hb d_Law_law_1332 (by decide) (fun c_1 => ?_) (fun c_1 => absurd h0 c_1)
      refine lv_iload hx hb d_Law_law_1337 (lv_at hl 1 rfl) ?_
      refine lv_if_ne (tgt := 1361) hx hb d_Law_law_1339 (by decide) (fun c_2 => absurd rfl c_2) (fun c_2 => ?_)
      refine lv_aload_n hx hb d_Law_law_1342 rfl (lv_at hl 5 rfl) ?_
      refine lv_iconst (v := 0) hx hb d_Law_law_1343 (by decide) ?_
      refine va_lald hx hb hC.2.2.2.2.2.2.2.1.1 hB.1 12 1 wB_out rfl vin0 d_Law_law_1344 ?_
      refine lv_iload hx hb d_Law_law_1345 (lv_at hl 0 rfl) ?_
      refine lv_if_eq (tgt := 1354) hx hb d_Law_law_1347 (by decide) (fun c_3 => absurd c_3 (by rw [← hv]; decide)) (fun c_3 => ?_)
      refine lv_lconst (v := 1) hx hb d_Law_law_1350 (by decide) ?_
      refine lv_goto (tgt := 1355) hx hb d_Law_law_1351 (by decide) ?_
      refine W.lcmp hx hb d_Law_law_1355 ?_
      refine lv_if_eq (tgt := 1361) hx hb d_Law_law_1356 (by decide) (fun c_4 => ?_) (fun c_4 => absurd (cmp0.mpr rfl) c_4)
      refine lv_goto (tgt := 1662) hx hb d_Law_law_1361 (by decide) ?_
      exact hN _ π ((m_Mo_fitted τ (xs (6 * n + 1)) (xs (6 * n + 2)) (xs (6 * n + 3))).2) _ _ _ _ _ ls hπ hRL (cst_up hc (Nat.le_succ _) (by omega) (by omega)) (bd_perm hB wAB.symm) (lv_sub hl [2, 3, 4, 5, 6] rfl)
set_option maxHeartbeats 1000000 in
set_option maxRecDepth 100000 in
theorem lw_undo (hK : LC D cI cL cQ p l s m meth c b L xs) {n : Nat} (hn : 6 * n + 6 ≤ L) (hN : NX D G Gm cI cL cQ o p l e s m below meth c b n) {σ : SC} {π : PJ} {τ : SM} {f : Nat → Int64} {H : Heap} {locs : List Loc} {cells slots : Nat} {ls : Array Slot} (hπ : RJ π σ) (hR : RL n σ τ) (hc : cst n σ cells slots) (hB : bd D classes s.heap.size s.heap.size (wA G Gm cI cL cQ o σ π τ f) s H locs) (hl : lv_has ls 8 [(0, .ref b), (1, .ref (G 0 0)), (2, .ref (Gm 4 0)), (3, .ref o), (4, .int (nI (6 * n)))]) : WL p l e s m below meth c b H locs cells slots (F0 m 1364 ls []) := by
  obtain ⟨hC, hSW, htl, hX, hbl, hL⟩ := id hK
  have hx := hC.1
  have hb := hC.2.1
  obtain ⟨hr1, hr2⟩ := cst_room hc hR (by omega)
  obtain ⟨ok1, ok2, ok3, ok4, ok5⟩ := op_undo (c := n) (by omega) hR
  refine lv_aload_n hx hb d_Law_law_1364 rfl (lv_at hl 1 rfl) ?_
  refine kV hC hB _ lkC_ST rfl (c_ST_undo σ π hπ) allw_ok mf_ST_undo kw_355 kw_356 kw_354 ⟨rfl, rfl, Nat.le_of_ble_eq_true rfl, Nat.le_of_ble_eq_true rfl⟩ rfl rfl hl.1 (Nat.le_of_ble_eq_true rfl) d_Law_law_1365 ⟨by omega, by omega⟩ (fun H locs w hw hB => ?_)
  obtain ⟨π, hπ, rfl⟩ := hw
  have hB : bd D classes s.heap.size s.heap.size (wB G Gm cI cL cQ o ((m_ST_undo σ).2) π τ f) s H locs := bd_perm hB wAB
  refine lv_aload_n hx hb d_Law_law_1368 rfl (lv_at hl 2 rfl) ?_
  refine kV hC hB _ lkM_o rfl (c_Mo_undo τ (eq_true ok1)) allw_ok mf_Mo_undo kw_954 kw_955 kw_953 ⟨rfl, rfl, Nat.le_of_ble_eq_true rfl, Nat.le_of_ble_eq_true rfl⟩ rfl rfl hl.1 (Nat.le_of_ble_eq_true rfl) d_Law_law_1369 ⟨by omega, by omega⟩ (fun H locs w hw hB => ?_)
  subst hw
  refine lv_icmp_eq (tgt := 1662) hx hb d_Law_law_1372 (by decide) (fun c_1 => ?_) (fun c_1 => absurd (congrArg bi ok3) c_1)
  exact hN _ π ((m_Mo_undo τ).2) f _ _ _ _ ls hπ ok4 (cst_up hc ok5 (by omega) (by omega)) (bd_perm hB wAB.symm) hl
set_option maxHeartbeats 1000000 in
set_option maxRecDepth 100000 in
theorem lw_pages (hK : LC D cI cL cQ p l s m meth c b L xs) {n : Nat} (hn : 6 * n + 6 ≤ L) (hN : NX D G Gm cI cL cQ o p l e s m below meth c b n) {σ : SC} {π : PJ} {τ : SM} {f : Nat → Int64} {H : Heap} {locs : List Loc} {cells slots : Nat} {ls : Array Slot} (hπ : RJ π σ) (hR : RL n σ τ) (hc : cst n σ cells slots) (hB : bd D classes s.heap.size s.heap.size (wA G Gm cI cL cQ o σ π τ f) s H locs) (hl : lv_has ls 8 [(0, .ref b), (1, .ref (G 0 0)), (2, .ref (Gm 4 0)), (3, .ref o), (4, .int (nI (6 * n)))]) : WL p l e s m below meth c b H locs cells slots (F0 m 1377 ls []) := by
  obtain ⟨hC, hSW, htl, hX, hbl, hL⟩ := id hK
  have hx := hC.1
  have hb := hC.2.1
  obtain ⟨hr1, hr2⟩ := cst_room hc hR (by omega)
  obtain ⟨ok1, ok2, ok3, ok4⟩ := op_pages (c := n) (by omega) hR
  refine lv_aload_n hx hb d_Law_law_1377 rfl (lv_at hl 1 rfl) ?_
  refine kV hC hB _ lkC_ST rfl (c_ST_pages σ π) allw_ok mf_ST_pages kw_372 kw_373 kw_371 ⟨rfl, rfl, Nat.le_of_ble_eq_true rfl, Nat.le_of_ble_eq_true rfl⟩ rfl rfl hl.1 (Nat.le_of_ble_eq_true rfl) d_Law_law_1378 ⟨by omega, by omega⟩ (fun H locs w hw hB => ?_)
  subst hw
  have hB : bd D classes s.heap.size s.heap.size (wB G Gm cI cL cQ o σ π τ f) s H locs := bd_perm hB wAB
  refine lv_aload_n hx hb d_Law_law_1381 rfl (lv_at hl 2 rfl) ?_
  refine kV hC hB _ lkM_o rfl (c_Mo_pages τ (eq_true ok1)) allw_ok mf_Mo_pages kw_1142 kw_1143 kw_1141 ⟨rfl, rfl, Nat.le_of_ble_eq_true rfl, Nat.le_of_ble_eq_true rfl⟩ rfl rfl hl.1 (Nat.le_of_ble_eq_true rfl) d_Law_law_1382 ⟨by omega, by omega⟩ (fun H locs w hw hB => ?_)
  subst hw
  refine lv_icmp_eq (tgt := 1662) hx hb d_Law_law_1385 (by decide) (fun c_1 => ?_) (fun c_1 => absurd (ok3) c_1)
  exact hN _ π ((m_Mo_pages τ).2) f _ _ _ _ ls hπ ok4 (cst_up hc (Nat.le_succ _) (by omega) (by omega)) (bd_perm hB wAB.symm) hl
set_option maxHeartbeats 1000000 in
set_option maxRecDepth 100000 in
theorem lw_page (hK : LC D cI cL cQ p l s m meth c b L xs) {n : Nat} (hn : 6 * n + 6 ≤ L) (hN : NX D G Gm cI cL cQ o p l e s m below meth c b n) {σ : SC} {π : PJ} {τ : SM} {f : Nat → Int64} {H : Heap} {locs : List Loc} {cells slots : Nat} {ls : Array Slot} (hπ : RJ π σ) (hR : RL n σ τ) (hc : cst n σ cells slots) (hB : bd D classes s.heap.size s.heap.size (wA G Gm cI cL cQ o σ π τ f) s H locs) (hl : lv_has ls 8 [(0, .ref b), (1, .ref (G 0 0)), (2, .ref (Gm 4 0)), (3, .ref o), (4, .int (nI (6 * n)))]) : WL p l e s m below meth c b H locs cells slots (F0 m 1390 ls []) := by
  obtain ⟨hC, hSW, htl, hX, hbl, hL⟩ := id hK
  have hx := hC.1
  have hb := hC.2.1
  obtain ⟨hr1, hr2⟩ := cst_room hc hR (by omega)
  obtain ⟨ok1, ok2⟩ := op_page (c := n) (by omega) hR (xs (6 * n + 1)) (xs (6 * n + 2))
  rcases ok2 with ⟨hM, h0, hRL⟩ | ⟨v, hM, h0, hv, hRL⟩
  · refine lv_aload_n hx hb d_Law_law_1390 rfl (lv_at hl 1 rfl) ?_
    refine rdj hK hn hB.2.2 (lv_at hl 0 rfl) (lv_at hl 4 rfl) (j := 1) (by decide) d_Law_law_1391 d_Law_law_1392 d_Law_law_1394 (by decide) d_Law_law_1395 d_Law_law_1396 ?_
    refine rdj hK hn hB.2.2 (lv_at hl 0 rfl) (lv_at hl 4 rfl) (j := 2) (by decide) d_Law_law_1397 d_Law_law_1398 d_Law_law_1400 (by decide) d_Law_law_1401 d_Law_law_1402 ?_
    refine lv_aload_n hx hb d_Law_law_1403 rfl (lv_at hl 3 rfl) ?_
    refine kSW hC hSW (Nat.le_refl _) hB (ht_page htl σ π hπ o f (xs (6 * n + 1)) (xs (6 * n + 2)) hM) allw_ok kw_821 kw_0 ⟨by decide, by decide⟩ (n := 4) (by decide +kernel) kw_820 kw_819 ⟨rfl, rfl, Nat.le_of_ble_eq_true rfl, Nat.le_of_ble_eq_true rfl⟩ rfl rfl hl.1 (Nat.le_of_ble_eq_true rfl) d_Law_law_1404 ⟨by omega, by omega⟩ (fun H locs w hw hB => ?_)
    obtain ⟨π, hπ, rfl⟩ := hw
    have hB : bd D classes s.heap.size s.heap.size (wB G Gm cI cL cQ o σ π τ f) s H locs := bd_perm hB wAB
    refine lv_istore (lv' := [(5, .int 1), (0, .ref b), (1, .ref (G 0 0)), (2, .ref (Gm 4 0)), (3, .ref o), (4, .int (nI (6 * n)))]) hx hb d_Law_law_1407 hl (by decide) rfl (fun ls hl => ?_)
    refine lv_aload_n hx hb d_Law_law_1409 rfl (lv_at hl 3 rfl) ?_
    refine rdj hK hn hB.2.2 (lv_at hl 1 rfl) (lv_at hl 5 rfl) (j := 1) (by decide) d_Law_law_1410 d_Law_law_1411 d_Law_law_1413 (by decide) d_Law_law_1414 d_Law_law_1415 ?_
    refine rdj hK hn hB.2.2 (lv_at hl 1 rfl) (lv_at hl 5 rfl) (j := 2) (by decide) d_Law_law_1416 d_Law_law_1417 d_Law_law_1419 (by decide) d_Law_law_1420 d_Law_law_1421 ?_
    refine kV hC hB _ lkM_o rfl (c_Mo_page τ (xs (6 * n + 1)) (xs (6 * n + 2)) (eq_true ok1)) allw_ok mf_Mo_page kw_1146 kw_1147 kw_1145 ⟨rfl, rfl, Nat.le_of_ble_eq_true rfl, Nat.le_of_ble_eq_true rfl⟩ rfl rfl hl.1 (Nat.le_of_ble_eq_true rfl) d_Law_law_1422 ⟨by omega, by omega⟩ (fun H locs w hw hB => ?_)
    subst hw
    have hB : bd D classes s.heap.size s.heap.size (wB G Gm cI cL cQ o σ π ((m_Mo_page τ (xs (6 * n + 1)) (xs (6 * n + 2))).2) f) s H locs := hB
    refine lv_istore (lv' := [(6, .int ((m_Mo_page τ (xs (6 * n + 1)) (xs (6 * n + 2))).1)), (5, .int 1), (0, .ref b), (1, .ref (G 0 0)), (2, .ref (Gm 4 0)), (3, .ref o), (4, .int (nI (6 * n)))]) hx hb d_Law_law_1425 hl (by decide) rfl (fun ls hl => ?_)
    refine lv_aload_n hx hb d_Law_law_1427 rfl (lv_at hl 4 rfl) ?_
    refine kV hC hB _ lkM_o rfl (c_Mo_thrown ((m_Mo_page τ (xs (6 * n + 1)) (xs (6 * n + 2))).2) rfl) allw_ok mf_Mo_thrown kw_950 kw_951 kw_949 ⟨rfl, rfl, Nat.le_of_ble_eq_true rfl, Nat.le_of_ble_eq_true rfl⟩ rfl rfl hl.1 (Nat.le_of_ble_eq_true rfl) d_Law_law_1428 ⟨by omega, by omega⟩ (roK fun H locs hB => ?_)
    refine lv_iload hx hb d_Law_law_1431 (lv_at hl 1 rfl) ?_
    refine lv_icmp_eq (tgt := 1438) hx hb d_Law_law_1433 (by decide) (fun c_1 => ?_) (fun c_1 => absurd h0 c_1)
    refine lv_iload hx hb d_Law_law_1438 (lv_at hl 1 rfl) ?_
    refine lv_if_ne (tgt := 1455) hx hb d_Law_law_1440 (by decide) (fun c_2 => ?_) (fun c_2 => absurd c_2 (by decide))
    refine lv_goto (tgt := 1662) hx hb d_Law_law_1455 (by decide) ?_
    exact hN _ π ((m_Mo_page τ (xs (6 * n + 1)) (xs (6 * n + 2))).2) _ _ _ _ _ ls hπ hRL (cst_up hc (Nat.le_succ _) (by omega) (by omega)) (bd_perm hB wAB.symm) (lv_sub hl [2, 3, 4, 5, 6] rfl)
  · refine lv_aload_n hx hb d_Law_law_1390 rfl (lv_at hl 1 rfl) ?_
    refine rdj hK hn hB.2.2 (lv_at hl 0 rfl) (lv_at hl 4 rfl) (j := 1) (by decide) d_Law_law_1391 d_Law_law_1392 d_Law_law_1394 (by decide) d_Law_law_1395 d_Law_law_1396 ?_
    refine rdj hK hn hB.2.2 (lv_at hl 0 rfl) (lv_at hl 4 rfl) (j := 2) (by decide) d_Law_law_1397 d_Law_law_1398 d_Law_law_1400 (by decide) d_Law_law_1401 d_Law_law_1402 ?_
    refine lv_aload_n hx hb d_Law_law_1403 rfl (lv_at hl 3 rfl) ?_
    refine kSW hC hSW (Nat.le_refl _) hB (h_page σ π hπ o f (xs (6 * n + 1)) (xs (6 * n + 2)) v hM) allw_ok kw_821 kw_0 ⟨by decide, by decide⟩ (n := 4) (by decide +kernel) kw_820 kw_819 ⟨rfl, rfl, Nat.le_of_ble_eq_true rfl, Nat.le_of_ble_eq_true rfl⟩ rfl rfl hl.1 (Nat.le_of_ble_eq_true rfl) d_Law_law_1404 ⟨by omega, by omega⟩ (fun H locs w hw hB => ?_)
    obtain ⟨π, hπ, rfl⟩ := hw
    have hB : bd D classes s.heap.size s.heap.size (wB G Gm cI cL cQ o σ π τ (vp_updL f 0 v.toInt64)) s H locs := bd_perm hB wAB
    refine lv_istore (lv' := [(5, .int 0), (0, .ref b), (1, .ref (G 0 0)), (2, .ref (Gm 4 0)), (3, .ref o), (4, .int (nI (6 * n)))]) hx hb d_Law_law_1407 hl (by decide) rfl (fun ls hl => ?_)
    refine lv_aload_n hx hb d_Law_law_1409 rfl (lv_at hl 3 rfl) ?_
    refine rdj hK hn hB.2.2 (lv_at hl 1 rfl) (lv_at hl 5 rfl) (j := 1) (by decide) d_Law_law_1410 d_Law_law_1411 d_Law_law_1413 (by decide) d_Law_law_1414 d_Law_law_1415 ?_
    refine rdj hK hn hB.2.2 (lv_at hl 1 rfl) (lv_at hl 5 rfl) (j := 2) (by decide) d_Law_law_1416 d_Law_law_1417 d_Law_law_1419 (by decide) d_Law_law_1420 d_Law_law_1421 ?_
    refine kV hC hB _ lkM_o rfl (c_Mo_page τ (xs (6 * n + 1)) (xs (6 * n + 2)) (eq_true ok1)) allw_ok mf_Mo_page kw_1146 kw_1147 kw_1145 ⟨rfl, rfl, Nat.le_of_ble_eq_true rfl, Nat.le_of_ble_eq_true rfl⟩ rfl rfl hl.1 (Nat.le_of_ble_eq_true rfl) d_Law_law_1422 ⟨by omega, by omega⟩ (fun H locs w hw hB => ?_)
    subst hw
    have hB : bd D classes s.heap.size s.heap.size (wB G Gm cI cL cQ o σ π ((m_Mo_page τ (xs (6 * n + 1)) (xs (6 * n + 2))).2) (vp_updL f 0 v.toInt64)) s H locs := hB
    refine lv_istore (lv' := [(6, .int ((m_Mo_page τ (xs (6 * n + 1)) (xs (6 * n + 2))).1)), (5, .int 0), (0, .ref b), (1, .ref (G 0 0)), (2, .ref (Gm 4 0)), (3, .ref o), (4, .int (nI (6 * n)))]) hx hb d_Law_law_1425 hl (by decide) rfl (fun ls hl => ?_)
    refine lv_aload_n hx hb d_Law_law_1427 rfl (lv_at hl 4 rfl) ?_
    refine kV hC hB _ lkM_o rfl (c_Mo_thrown ((m_Mo_page τ (xs (6 * n + 1)) (xs (6 * n + 2))).2) rfl) allw_ok mf_Mo_thrown kw_950 kw_951 kw_949 ⟨rfl, rfl, Nat.le_of_ble_eq_true rfl, Nat.le_of_ble_eq_true rfl⟩ rfl rfl hl.1 (Nat.le_of_ble_eq_true rfl) d_Law_law_1428 ⟨by omega, by omega⟩ (roK fun H locs hB => ?_)
    refine lv_iload hx hb d_Law_law_1431 (lv_at hl 1 rfl) ?_
    refine lv_icmp_eq (tgt := 1438) hx hb d_Law_law_1433 (by decide) (fun c_1 => ?_) (fun c_1 => absurd h0 c_1)
    refine lv_iload hx hb d_Law_law_1438 (lv_at hl 1 rfl) ?_
    refine lv_if_ne (tgt := 1455) hx hb d_Law_law_1440 (by decide) (fun c_2 => absurd rfl c_2) (fun c_2 => ?_)
    refine lv_aload_n hx hb d_Law_law_1443 rfl (lv_at hl 5 rfl) ?_
    refine lv_iconst (v := 0) hx hb d_Law_law_1444 (by decide) ?_
    refine va_lald hx hb hC.2.2.2.2.2.2.2.1.1 hB.1 12 1 wB_out rfl vin0 d_Law_law_1445 ?_
    refine lv_iload hx hb d_Law_law_1446 (lv_at hl 0 rfl) ?_
    refine lv_i2l hx hb d_Law_law_1448 rfl ?_
    refine W.lcmp hx hb d_Law_law_1449 ?_
    refine lv_if_eq (tgt := 1455) hx hb d_Law_law_1450 (by decide) (fun c_4 => ?_) (fun c_4 => absurd (cmp0.mpr (congrArg Int32.toInt64 hv)) c_4)
    refine lv_goto (tgt := 1662) hx hb d_Law_law_1455 (by decide) ?_
    exact hN _ π ((m_Mo_page τ (xs (6 * n + 1)) (xs (6 * n + 2))).2) _ _ _ _ _ ls hπ hRL (cst_up hc (Nat.le_succ _) (by omega) (by omega)) (bd_perm hB wAB.symm) (lv_sub hl [2, 3, 4, 5, 6] rfl)
set_option maxHeartbeats 1000000 in
set_option maxRecDepth 100000 in
theorem lw_units (hK : LC D cI cL cQ p l s m meth c b L xs) {n : Nat} (hn : 6 * n + 6 ≤ L) (hN : NX D G Gm cI cL cQ o p l e s m below meth c b n) {σ : SC} {π : PJ} {τ : SM} {f : Nat → Int64} {H : Heap} {locs : List Loc} {cells slots : Nat} {ls : Array Slot} (hπ : RJ π σ) (hR : RL n σ τ) (hc : cst n σ cells slots) (hB : bd D classes s.heap.size s.heap.size (wA G Gm cI cL cQ o σ π τ f) s H locs) (hl : lv_has ls 8 [(0, .ref b), (1, .ref (G 0 0)), (2, .ref (Gm 4 0)), (3, .ref o), (4, .int (nI (6 * n)))]) : WL p l e s m below meth c b H locs cells slots (F0 m 1458 ls []) := by
  obtain ⟨hC, hSW, htl, hX, hbl, hL⟩ := id hK
  have hx := hC.1
  have hb := hC.2.1
  obtain ⟨hr1, hr2⟩ := cst_room hc hR (by omega)
  obtain ⟨ok1, ok2⟩ := op_units (c := n) (by omega) hR (xs (6 * n + 1))
  rcases ok2 with ⟨hM, h0, hRL⟩ | ⟨v, hM, h0, hv, hRL⟩
  · refine lv_aload_n hx hb d_Law_law_1458 rfl (lv_at hl 1 rfl) ?_
    refine rdj hK hn hB.2.2 (lv_at hl 0 rfl) (lv_at hl 4 rfl) (j := 1) (by decide) d_Law_law_1459 d_Law_law_1460 d_Law_law_1462 (by decide) d_Law_law_1463 d_Law_law_1464 ?_
    refine lv_aload_n hx hb d_Law_law_1465 rfl (lv_at hl 3 rfl) ?_
    refine kSW hC hSW (Nat.le_refl _) hB (ht_units htl σ π hπ o f (xs (6 * n + 1)) hM) allw_ok kw_833 kw_0 ⟨by decide, by decide⟩ (n := 3) (by decide +kernel) kw_832 kw_831 ⟨rfl, rfl, Nat.le_of_ble_eq_true rfl, Nat.le_of_ble_eq_true rfl⟩ rfl rfl hl.1 (Nat.le_of_ble_eq_true rfl) d_Law_law_1466 ⟨by omega, by omega⟩ (fun H locs w hw hB => ?_)
    obtain ⟨π, hπ, rfl⟩ := hw
    have hB : bd D classes s.heap.size s.heap.size (wB G Gm cI cL cQ o σ π τ f) s H locs := bd_perm hB wAB
    refine lv_istore (lv' := [(5, .int 1), (0, .ref b), (1, .ref (G 0 0)), (2, .ref (Gm 4 0)), (3, .ref o), (4, .int (nI (6 * n)))]) hx hb d_Law_law_1469 hl (by decide) rfl (fun ls hl => ?_)
    refine lv_aload_n hx hb d_Law_law_1471 rfl (lv_at hl 3 rfl) ?_
    refine rdj hK hn hB.2.2 (lv_at hl 1 rfl) (lv_at hl 5 rfl) (j := 1) (by decide) d_Law_law_1472 d_Law_law_1473 d_Law_law_1475 (by decide) d_Law_law_1476 d_Law_law_1477 ?_
    refine kV hC hB _ lkM_o rfl (c_Mo_units τ (xs (6 * n + 1)) (eq_true ok1)) allw_ok mf_Mo_units kw_1150 kw_1151 kw_1149 ⟨rfl, rfl, Nat.le_of_ble_eq_true rfl, Nat.le_of_ble_eq_true rfl⟩ rfl rfl hl.1 (Nat.le_of_ble_eq_true rfl) d_Law_law_1478 ⟨by omega, by omega⟩ (fun H locs w hw hB => ?_)
    subst hw
    have hB : bd D classes s.heap.size s.heap.size (wB G Gm cI cL cQ o σ π ((m_Mo_units τ (xs (6 * n + 1))).2) f) s H locs := hB
    refine lv_istore (lv' := [(6, .int ((m_Mo_units τ (xs (6 * n + 1))).1)), (5, .int 1), (0, .ref b), (1, .ref (G 0 0)), (2, .ref (Gm 4 0)), (3, .ref o), (4, .int (nI (6 * n)))]) hx hb d_Law_law_1481 hl (by decide) rfl (fun ls hl => ?_)
    refine lv_aload_n hx hb d_Law_law_1483 rfl (lv_at hl 4 rfl) ?_
    refine kV hC hB _ lkM_o rfl (c_Mo_thrown ((m_Mo_units τ (xs (6 * n + 1))).2) rfl) allw_ok mf_Mo_thrown kw_950 kw_951 kw_949 ⟨rfl, rfl, Nat.le_of_ble_eq_true rfl, Nat.le_of_ble_eq_true rfl⟩ rfl rfl hl.1 (Nat.le_of_ble_eq_true rfl) d_Law_law_1484 ⟨by omega, by omega⟩ (roK fun H locs hB => ?_)
    refine lv_iload hx hb d_Law_law_1487 (lv_at hl 1 rfl) ?_
    refine lv_icmp_eq (tgt := 1494) hx hb d_Law_law_1489 (by decide) (fun c_1 => ?_) (fun c_1 => absurd h0 c_1)
    refine lv_iload hx hb d_Law_law_1494 (lv_at hl 1 rfl) ?_
    refine lv_if_ne (tgt := 1511) hx hb d_Law_law_1496 (by decide) (fun c_2 => ?_) (fun c_2 => absurd c_2 (by decide))
    refine lv_goto (tgt := 1662) hx hb d_Law_law_1511 (by decide) ?_
    exact hN _ π ((m_Mo_units τ (xs (6 * n + 1))).2) _ _ _ _ _ ls hπ hRL (cst_up hc (Nat.le_succ _) (by omega) (by omega)) (bd_perm hB wAB.symm) (lv_sub hl [2, 3, 4, 5, 6] rfl)
  · refine lv_aload_n hx hb d_Law_law_1458 rfl (lv_at hl 1 rfl) ?_
    refine rdj hK hn hB.2.2 (lv_at hl 0 rfl) (lv_at hl 4 rfl) (j := 1) (by decide) d_Law_law_1459 d_Law_law_1460 d_Law_law_1462 (by decide) d_Law_law_1463 d_Law_law_1464 ?_
    refine lv_aload_n hx hb d_Law_law_1465 rfl (lv_at hl 3 rfl) ?_
    refine kSW hC hSW (Nat.le_refl _) hB (h_units σ π hπ o f (xs (6 * n + 1)) v hM) allw_ok kw_833 kw_0 ⟨by decide, by decide⟩ (n := 3) (by decide +kernel) kw_832 kw_831 ⟨rfl, rfl, Nat.le_of_ble_eq_true rfl, Nat.le_of_ble_eq_true rfl⟩ rfl rfl hl.1 (Nat.le_of_ble_eq_true rfl) d_Law_law_1466 ⟨by omega, by omega⟩ (fun H locs w hw hB => ?_)
    obtain ⟨π, hπ, rfl⟩ := hw
    have hB : bd D classes s.heap.size s.heap.size (wB G Gm cI cL cQ o σ π τ (vp_updL f 0 v.toInt64)) s H locs := bd_perm hB wAB
    refine lv_istore (lv' := [(5, .int 0), (0, .ref b), (1, .ref (G 0 0)), (2, .ref (Gm 4 0)), (3, .ref o), (4, .int (nI (6 * n)))]) hx hb d_Law_law_1469 hl (by decide) rfl (fun ls hl => ?_)
    refine lv_aload_n hx hb d_Law_law_1471 rfl (lv_at hl 3 rfl) ?_
    refine rdj hK hn hB.2.2 (lv_at hl 1 rfl) (lv_at hl 5 rfl) (j := 1) (by decide) d_Law_law_1472 d_Law_law_1473 d_Law_law_1475 (by decide) d_Law_law_1476 d_Law_law_1477 ?_
    refine kV hC hB _ lkM_o rfl (c_Mo_units τ (xs (6 * n + 1)) (eq_true ok1)) allw_ok mf_Mo_units kw_1150 kw_1151 kw_1149 ⟨rfl, rfl, Nat.le_of_ble_eq_true rfl, Nat.le_of_ble_eq_true rfl⟩ rfl rfl hl.1 (Nat.le_of_ble_eq_true rfl) d_Law_law_1478 ⟨by omega, by omega⟩ (fun H locs w hw hB => ?_)
    subst hw
    have hB : bd D classes s.heap.size s.heap.size (wB G Gm cI cL cQ o σ π ((m_Mo_units τ (xs (6 * n + 1))).2) (vp_updL f 0 v.toInt64)) s H locs := hB
    refine lv_istore (lv' := [(6, .int ((m_Mo_units τ (xs (6 * n + 1))).1)), (5, .int 0), (0, .ref b), (1, .ref (G 0 0)), (2, .ref (Gm 4 0)), (3, .ref o), (4, .int (nI (6 * n)))]) hx hb d_Law_law_1481 hl (by decide) rfl (fun ls hl => ?_)
    refine lv_aload_n hx hb d_Law_law_1483 rfl (lv_at hl 4 rfl) ?_
    refine kV hC hB _ lkM_o rfl (c_Mo_thrown ((m_Mo_units τ (xs (6 * n + 1))).2) rfl) allw_ok mf_Mo_thrown kw_950 kw_951 kw_949 ⟨rfl, rfl, Nat.le_of_ble_eq_true rfl, Nat.le_of_ble_eq_true rfl⟩ rfl rfl hl.1 (Nat.le_of_ble_eq_true rfl) d_Law_law_1484 ⟨by omega, by omega⟩ (roK fun H locs hB => ?_)
    refine lv_iload hx hb d_Law_law_1487 (lv_at hl 1 rfl) ?_
    refine lv_icmp_eq (tgt := 1494) hx hb d_Law_law_1489 (by decide) (fun c_1 => ?_) (fun c_1 => absurd h0 c_1)
    refine lv_iload hx hb d_Law_law_1494 (lv_at hl 1 rfl) ?_
    refine lv_if_ne (tgt := 1511) hx hb d_Law_law_1496 (by decide) (fun c_2 => absurd rfl c_2) (fun c_2 => ?_)
    refine lv_aload_n hx hb d_Law_law_1499 rfl (lv_at hl 5 rfl) ?_
    refine lv_iconst (v := 0) hx hb d_Law_law_1500 (by decide) ?_
    refine va_lald hx hb hC.2.2.2.2.2.2.2.1.1 hB.1 12 1 wB_out rfl vin0 d_Law_law_1501 ?_
    refine lv_iload hx hb d_Law_law_1502 (lv_at hl 0 rfl) ?_
    refine lv_i2l hx hb d_Law_law_1504 rfl ?_
    refine W.lcmp hx hb d_Law_law_1505 ?_
    refine lv_if_eq (tgt := 1511) hx hb d_Law_law_1506 (by decide) (fun c_4 => ?_) (fun c_4 => absurd (cmp0.mpr (congrArg Int32.toInt64 hv)) c_4)
    refine lv_goto (tgt := 1662) hx hb d_Law_law_1511 (by decide) ?_
    exact hN _ π ((m_Mo_units τ (xs (6 * n + 1))).2) _ _ _ _ _ ls hπ hRL (cst_up hc (Nat.le_succ _) (by omega) (by omega)) (bd_perm hB wAB.symm) (lv_sub hl [2, 3, 4, 5, 6] rfl)
set_option maxHeartbeats 1000000 in
set_option maxRecDepth 100000 in
theorem lw_where (hK : LC D cI cL cQ p l s m meth c b L xs) {n : Nat} (hn : 6 * n + 6 ≤ L) (hN : NX D G Gm cI cL cQ o p l e s m below meth c b n) {σ : SC} {π : PJ} {τ : SM} {f : Nat → Int64} {H : Heap} {locs : List Loc} {cells slots : Nat} {ls : Array Slot} (hπ : RJ π σ) (hR : RL n σ τ) (hc : cst n σ cells slots) (hB : bd D classes s.heap.size s.heap.size (wA G Gm cI cL cQ o σ π τ f) s H locs) (hl : lv_has ls 8 [(0, .ref b), (1, .ref (G 0 0)), (2, .ref (Gm 4 0)), (3, .ref o), (4, .int (nI (6 * n)))]) : WL p l e s m below meth c b H locs cells slots (F0 m 1514 ls []) := by
  obtain ⟨hC, hSW, htl, hX, hbl, hL⟩ := id hK
  have hx := hC.1
  have hb := hC.2.1
  obtain ⟨hr1, hr2⟩ := cst_room hc hR (by omega)
  obtain ⟨ok1, ok2⟩ := op_where (c := n) (by omega) hR (xs (6 * n + 1)) (xs (6 * n + 2)) (xs (6 * n + 3))
  rcases ok2 with ⟨hM, h0, hRL⟩ | ⟨v, hM, h0, hv, hRL⟩
  · refine lv_aload_n hx hb d_Law_law_1514 rfl (lv_at hl 1 rfl) ?_
    refine rdj hK hn hB.2.2 (lv_at hl 0 rfl) (lv_at hl 4 rfl) (j := 1) (by decide) d_Law_law_1515 d_Law_law_1516 d_Law_law_1518 (by decide) d_Law_law_1519 d_Law_law_1520 ?_
    refine rdj hK hn hB.2.2 (lv_at hl 0 rfl) (lv_at hl 4 rfl) (j := 2) (by decide) d_Law_law_1521 d_Law_law_1522 d_Law_law_1524 (by decide) d_Law_law_1525 d_Law_law_1526 ?_
    refine rdj hK hn hB.2.2 (lv_at hl 0 rfl) (lv_at hl 4 rfl) (j := 3) (by decide) d_Law_law_1527 d_Law_law_1528 d_Law_law_1530 (by decide) d_Law_law_1531 d_Law_law_1532 ?_
    refine lv_aload_n hx hb d_Law_law_1533 rfl (lv_at hl 3 rfl) ?_
    refine kSW hC hSW (Nat.le_refl _) hB (ht_where htl σ π hπ o f (xs (6 * n + 1)) (xs (6 * n + 2)) (xs (6 * n + 3)) hM) allw_ok kw_847 kw_0 ⟨by decide, by decide⟩ (n := 5) (by decide +kernel) kw_846 kw_845 ⟨rfl, rfl, Nat.le_of_ble_eq_true rfl, Nat.le_of_ble_eq_true rfl⟩ rfl rfl hl.1 (Nat.le_of_ble_eq_true rfl) d_Law_law_1534 ⟨by omega, by omega⟩ (fun H locs w hw hB => ?_)
    obtain ⟨π, hπ, rfl⟩ := hw
    have hB : bd D classes s.heap.size s.heap.size (wB G Gm cI cL cQ o σ π τ f) s H locs := bd_perm hB wAB
    refine lv_istore (lv' := [(5, .int 1), (0, .ref b), (1, .ref (G 0 0)), (2, .ref (Gm 4 0)), (3, .ref o), (4, .int (nI (6 * n)))]) hx hb d_Law_law_1537 hl (by decide) rfl (fun ls hl => ?_)
    refine lv_aload_n hx hb d_Law_law_1539 rfl (lv_at hl 3 rfl) ?_
    refine rdj hK hn hB.2.2 (lv_at hl 1 rfl) (lv_at hl 5 rfl) (j := 1) (by decide) d_Law_law_1540 d_Law_law_1541 d_Law_law_1543 (by decide) d_Law_law_1544 d_Law_law_1545 ?_
    refine rdj hK hn hB.2.2 (lv_at hl 1 rfl) (lv_at hl 5 rfl) (j := 2) (by decide) d_Law_law_1546 d_Law_law_1547 d_Law_law_1549 (by decide) d_Law_law_1550 d_Law_law_1551 ?_
    refine rdj hK hn hB.2.2 (lv_at hl 1 rfl) (lv_at hl 5 rfl) (j := 3) (by decide) d_Law_law_1552 d_Law_law_1553 d_Law_law_1555 (by decide) d_Law_law_1556 d_Law_law_1557 ?_
    refine kV hC hB _ lkM_o rfl (c_Mo_where τ (xs (6 * n + 1)) (xs (6 * n + 2)) (xs (6 * n + 3)) (eq_true ok1)) allw_ok mf_Mo_where kw_1158 kw_1159 kw_1157 ⟨rfl, rfl, Nat.le_of_ble_eq_true rfl, Nat.le_of_ble_eq_true rfl⟩ rfl rfl hl.1 (Nat.le_of_ble_eq_true rfl) d_Law_law_1558 ⟨by omega, by omega⟩ (fun H locs w hw hB => ?_)
    subst hw
    have hB : bd D classes s.heap.size s.heap.size (wB G Gm cI cL cQ o σ π ((m_Mo_where τ (xs (6 * n + 1)) (xs (6 * n + 2)) (xs (6 * n + 3))).2) f) s H locs := hB
    refine lv_istore (lv' := [(6, .int ((m_Mo_where τ (xs (6 * n + 1)) (xs (6 * n + 2)) (xs (6 * n + 3))).1)), (5, .int 1), (0, .ref b), (1, .ref (G 0 0)), (2, .ref (Gm 4 0)), (3, .ref o), (4, .int (nI (6 * n)))]) hx hb d_Law_law_1561 hl (by decide) rfl (fun ls hl => ?_)
    refine lv_aload_n hx hb d_Law_law_1563 rfl (lv_at hl 4 rfl) ?_
    refine kV hC hB _ lkM_o rfl (c_Mo_thrown ((m_Mo_where τ (xs (6 * n + 1)) (xs (6 * n + 2)) (xs (6 * n + 3))).2) rfl) allw_ok mf_Mo_thrown kw_950 kw_951 kw_949 ⟨rfl, rfl, Nat.le_of_ble_eq_true rfl, Nat.le_of_ble_eq_true rfl⟩ rfl rfl hl.1 (Nat.le_of_ble_eq_true rfl) d_Law_law_1564 ⟨by omega, by omega⟩ (roK fun H locs hB => ?_)
    refine lv_iload hx hb d_Law_law_1567 (lv_at hl 1 rfl) ?_
    refine lv_icmp_eq (tgt := 1574) hx hb d_Law_law_1569 (by decide) (fun c_1 => ?_) (fun c_1 => absurd h0 c_1)
    refine lv_iload hx hb d_Law_law_1574 (lv_at hl 1 rfl) ?_
    refine lv_if_ne (tgt := 1591) hx hb d_Law_law_1576 (by decide) (fun c_2 => ?_) (fun c_2 => absurd c_2 (by decide))
    refine lv_goto (tgt := 1662) hx hb d_Law_law_1591 (by decide) ?_
    exact hN _ π ((m_Mo_where τ (xs (6 * n + 1)) (xs (6 * n + 2)) (xs (6 * n + 3))).2) _ _ _ _ _ ls hπ hRL (cst_up hc (Nat.le_succ _) (by omega) (by omega)) (bd_perm hB wAB.symm) (lv_sub hl [2, 3, 4, 5, 6] rfl)
  · refine lv_aload_n hx hb d_Law_law_1514 rfl (lv_at hl 1 rfl) ?_
    refine rdj hK hn hB.2.2 (lv_at hl 0 rfl) (lv_at hl 4 rfl) (j := 1) (by decide) d_Law_law_1515 d_Law_law_1516 d_Law_law_1518 (by decide) d_Law_law_1519 d_Law_law_1520 ?_
    refine rdj hK hn hB.2.2 (lv_at hl 0 rfl) (lv_at hl 4 rfl) (j := 2) (by decide) d_Law_law_1521 d_Law_law_1522 d_Law_law_1524 (by decide) d_Law_law_1525 d_Law_law_1526 ?_
    refine rdj hK hn hB.2.2 (lv_at hl 0 rfl) (lv_at hl 4 rfl) (j := 3) (by decide) d_Law_law_1527 d_Law_law_1528 d_Law_law_1530 (by decide) d_Law_law_1531 d_Law_law_1532 ?_
    refine lv_aload_n hx hb d_Law_law_1533 rfl (lv_at hl 3 rfl) ?_
    refine kSW hC hSW (Nat.le_refl _) hB (h_where σ π hπ o f (xs (6 * n + 1)) (xs (6 * n + 2)) (xs (6 * n + 3)) v hM) allw_ok kw_847 kw_0 ⟨by decide, by decide⟩ (n := 5) (by decide +kernel) kw_846 kw_845 ⟨rfl, rfl, Nat.le_of_ble_eq_true rfl, Nat.le_of_ble_eq_true rfl⟩ rfl rfl hl.1 (Nat.le_of_ble_eq_true rfl) d_Law_law_1534 ⟨by omega, by omega⟩ (fun H locs w hw hB => ?_)
    obtain ⟨π, hπ, rfl⟩ := hw
    have hB : bd D classes s.heap.size s.heap.size (wB G Gm cI cL cQ o σ π τ (vp_updL f 0 v.toInt64)) s H locs := bd_perm hB wAB
    refine lv_istore (lv' := [(5, .int 0), (0, .ref b), (1, .ref (G 0 0)), (2, .ref (Gm 4 0)), (3, .ref o), (4, .int (nI (6 * n)))]) hx hb d_Law_law_1537 hl (by decide) rfl (fun ls hl => ?_)
    refine lv_aload_n hx hb d_Law_law_1539 rfl (lv_at hl 3 rfl) ?_
    refine rdj hK hn hB.2.2 (lv_at hl 1 rfl) (lv_at hl 5 rfl) (j := 1) (by decide) d_Law_law_1540 d_Law_law_1541 d_Law_law_1543 (by decide) d_Law_law_1544 d_Law_law_1545 ?_
    refine rdj hK hn hB.2.2 (lv_at hl 1 rfl) (lv_at hl 5 rfl) (j := 2) (by decide) d_Law_law_1546 d_Law_law_1547 d_Law_law_1549 (by decide) d_Law_law_1550 d_Law_law_1551 ?_
    refine rdj hK hn hB.2.2 (lv_at hl 1 rfl) (lv_at hl 5 rfl) (j := 3) (by decide) d_Law_law_1552 d_Law_law_1553 d_Law_law_1555 (by decide) d_Law_law_1556 d_Law_law_1557 ?_
    refine kV hC hB _ lkM_o rfl (c_Mo_where τ (xs (6 * n + 1)) (xs (6 * n + 2)) (xs (6 * n + 3)) (eq_true ok1)) allw_ok mf_Mo_where kw_1158 kw_1159 kw_1157 ⟨rfl, rfl, Nat.le_of_ble_eq_true rfl, Nat.le_of_ble_eq_true rfl⟩ rfl rfl hl.1 (Nat.le_of_ble_eq_true rfl) d_Law_law_1558 ⟨by omega, by omega⟩ (fun H locs w hw hB => ?_)
    subst hw
    have hB : bd D classes s.heap.size s.heap.size (wB G Gm cI cL cQ o σ π ((m_Mo_where τ (xs (6 * n + 1)) (xs (6 * n + 2)) (xs (6 * n + 3))).2) (vp_updL f 0 v.toInt64)) s H locs := hB
    refine lv_istore (lv' := [(6, .int ((m_Mo_where τ (xs (6 * n + 1)) (xs (6 * n + 2)) (xs (6 * n + 3))).1)), (5, .int 0), (0, .ref b), (1, .ref (G 0 0)), (2, .ref (Gm 4 0)), (3, .ref o), (4, .int (nI (6 * n)))]) hx hb d_Law_law_1561 hl (by decide) rfl (fun ls hl => ?_)
    refine lv_aload_n hx hb d_Law_law_1563 rfl (lv_at hl 4 rfl) ?_
    refine kV hC hB _ lkM_o rfl (c_Mo_thrown ((m_Mo_where τ (xs (6 * n + 1)) (xs (6 * n + 2)) (xs (6 * n + 3))).2) rfl) allw_ok mf_Mo_thrown kw_950 kw_951 kw_949 ⟨rfl, rfl, Nat.le_of_ble_eq_true rfl, Nat.le_of_ble_eq_true rfl⟩ rfl rfl hl.1 (Nat.le_of_ble_eq_true rfl) d_Law_law_1564 ⟨by omega, by omega⟩ (roK fun H locs hB => ?_)
    refine lv_iload hx hb d_Law_law_1567 (lv_at hl 1 rfl) ?_
    refine lv_icmp_eq (tgt := 1574) hx hb d_Law_law_1569 (by decide) (fun c_1 => ?_) (fun c_1 => absurd h0 c_1)
    refine lv_iload hx hb d_Law_law_1574 (lv_at hl 1 rfl) ?_
    refine lv_if_ne (tgt := 1591) hx hb d_Law_law_1576 (by decide) (fun c_2 => absurd rfl c_2) (fun c_2 => ?_)
    refine lv_aload_n hx hb d_Law_law_1579 rfl (lv_at hl 5 rfl) ?_
    refine lv_iconst (v := 0) hx hb d_Law_law_1580 (by decide) ?_
    refine va_lald hx hb hC.2.2.2.2.2.2.2.1.1 hB.1 12 1 wB_out rfl vin0 d_Law_law_1581 ?_
    refine lv_iload hx hb d_Law_law_1582 (lv_at hl 0 rfl) ?_
    refine lv_i2l hx hb d_Law_law_1584 rfl ?_
    refine W.lcmp hx hb d_Law_law_1585 ?_
    refine lv_if_eq (tgt := 1591) hx hb d_Law_law_1586 (by decide) (fun c_4 => ?_) (fun c_4 => absurd (cmp0.mpr (congrArg Int32.toInt64 hv)) c_4)
    refine lv_goto (tgt := 1662) hx hb d_Law_law_1591 (by decide) ?_
    exact hN _ π ((m_Mo_where τ (xs (6 * n + 1)) (xs (6 * n + 2)) (xs (6 * n + 3))).2) _ _ _ _ _ ls hπ hRL (cst_up hc (Nat.le_succ _) (by omega) (by omega)) (bd_perm hB wAB.symm) (lv_sub hl [2, 3, 4, 5, 6] rfl)
set_option maxHeartbeats 1000000 in
set_option maxRecDepth 100000 in
theorem lw_name (hK : LC D cI cL cQ p l s m meth c b L xs) {n : Nat} (hn : 6 * n + 6 ≤ L) (hN : NX D G Gm cI cL cQ o p l e s m below meth c b n) {σ : SC} {π : PJ} {τ : SM} {f : Nat → Int64} {H : Heap} {locs : List Loc} {cells slots : Nat} {ls : Array Slot} (hπ : RJ π σ) (hR : RL n σ τ) (hc : cst n σ cells slots) (hB : bd D classes s.heap.size s.heap.size (wA G Gm cI cL cQ o σ π τ f) s H locs) (hl : lv_has ls 8 [(0, .ref b), (1, .ref (G 0 0)), (2, .ref (Gm 4 0)), (3, .ref o), (4, .int (nI (6 * n)))]) : WL p l e s m below meth c b H locs cells slots (F0 m 1594 ls []) := by
  obtain ⟨hC, hSW, htl, hX, hbl, hL⟩ := id hK
  have hx := hC.1
  have hb := hC.2.1
  obtain ⟨hr1, hr2⟩ := cst_room hc hR (by omega)
  obtain ⟨ok1, ok2⟩ := op_name (c := n) (by omega) hR (xs (6 * n + 1)) (xs (6 * n + 2))
  rcases ok2 with ⟨hM, h0, hRL⟩ | ⟨v, σ2, hM, h0, hv, hRL, hns⟩
  · refine lv_aload_n hx hb d_Law_law_1594 rfl (lv_at hl 1 rfl) ?_
    refine rdj hK hn hB.2.2 (lv_at hl 0 rfl) (lv_at hl 4 rfl) (j := 1) (by decide) d_Law_law_1595 d_Law_law_1596 d_Law_law_1598 (by decide) d_Law_law_1599 d_Law_law_1600 ?_
    refine rdj hK hn hB.2.2 (lv_at hl 0 rfl) (lv_at hl 4 rfl) (j := 2) (by decide) d_Law_law_1601 d_Law_law_1602 d_Law_law_1604 (by decide) d_Law_law_1605 d_Law_law_1606 ?_
    refine lv_aload_n hx hb d_Law_law_1607 rfl (lv_at hl 3 rfl) ?_
    refine kSW hC hSW (Nat.le_refl _) hB (ht_name htl σ π hπ o f (xs (6 * n + 1)) (xs (6 * n + 2)) hM) allw_ok kw_867 kw_0 ⟨by decide, by decide⟩ (n := 4) (by decide +kernel) kw_866 kw_865 ⟨rfl, rfl, Nat.le_of_ble_eq_true rfl, Nat.le_of_ble_eq_true rfl⟩ rfl rfl hl.1 (Nat.le_of_ble_eq_true rfl) d_Law_law_1608 ⟨by omega, by omega⟩ (fun H locs w hw hB => ?_)
    obtain ⟨π, hπ, rfl⟩ := hw
    have hB : bd D classes s.heap.size s.heap.size (wB G Gm cI cL cQ o σ π τ f) s H locs := bd_perm hB wAB
    refine lv_istore (lv' := [(5, .int 1), (0, .ref b), (1, .ref (G 0 0)), (2, .ref (Gm 4 0)), (3, .ref o), (4, .int (nI (6 * n)))]) hx hb d_Law_law_1611 hl (by decide) rfl (fun ls hl => ?_)
    refine lv_aload_n hx hb d_Law_law_1613 rfl (lv_at hl 3 rfl) ?_
    refine rdj hK hn hB.2.2 (lv_at hl 1 rfl) (lv_at hl 5 rfl) (j := 1) (by decide) d_Law_law_1614 d_Law_law_1615 d_Law_law_1617 (by decide) d_Law_law_1618 d_Law_law_1619 ?_
    refine rdj hK hn hB.2.2 (lv_at hl 1 rfl) (lv_at hl 5 rfl) (j := 2) (by decide) d_Law_law_1620 d_Law_law_1621 d_Law_law_1623 (by decide) d_Law_law_1624 d_Law_law_1625 ?_
    refine kV hC hB _ lkM_o rfl (c_Mo_name τ (xs (6 * n + 1)) (xs (6 * n + 2)) (eq_true ok1)) allw_ok mf_Mo_name kw_1166 kw_1167 kw_1165 ⟨rfl, rfl, Nat.le_of_ble_eq_true rfl, Nat.le_of_ble_eq_true rfl⟩ rfl rfl hl.1 (Nat.le_of_ble_eq_true rfl) d_Law_law_1626 ⟨by omega, by omega⟩ (fun H locs w hw hB => ?_)
    subst hw
    have hB : bd D classes s.heap.size s.heap.size (wB G Gm cI cL cQ o σ π ((m_Mo_name τ (xs (6 * n + 1)) (xs (6 * n + 2))).2) f) s H locs := hB
    refine lv_istore (lv' := [(6, .int ((m_Mo_name τ (xs (6 * n + 1)) (xs (6 * n + 2))).1)), (5, .int 1), (0, .ref b), (1, .ref (G 0 0)), (2, .ref (Gm 4 0)), (3, .ref o), (4, .int (nI (6 * n)))]) hx hb d_Law_law_1629 hl (by decide) rfl (fun ls hl => ?_)
    refine lv_aload_n hx hb d_Law_law_1631 rfl (lv_at hl 4 rfl) ?_
    refine kV hC hB _ lkM_o rfl (c_Mo_thrown ((m_Mo_name τ (xs (6 * n + 1)) (xs (6 * n + 2))).2) rfl) allw_ok mf_Mo_thrown kw_950 kw_951 kw_949 ⟨rfl, rfl, Nat.le_of_ble_eq_true rfl, Nat.le_of_ble_eq_true rfl⟩ rfl rfl hl.1 (Nat.le_of_ble_eq_true rfl) d_Law_law_1632 ⟨by omega, by omega⟩ (roK fun H locs hB => ?_)
    refine lv_iload hx hb d_Law_law_1635 (lv_at hl 1 rfl) ?_
    refine lv_icmp_eq (tgt := 1642) hx hb d_Law_law_1637 (by decide) (fun c_1 => ?_) (fun c_1 => absurd h0 c_1)
    refine lv_iload hx hb d_Law_law_1642 (lv_at hl 1 rfl) ?_
    refine lv_if_ne (tgt := 1659) hx hb d_Law_law_1644 (by decide) (fun c_2 => ?_) (fun c_2 => absurd c_2 (by decide))
    refine lv_goto (tgt := 1662) hx hb d_Law_law_1659 (by decide) ?_
    exact hN _ π ((m_Mo_name τ (xs (6 * n + 1)) (xs (6 * n + 2))).2) _ _ _ _ _ ls hπ hRL (cst_up hc (Nat.le_succ _) (by omega) (by omega)) (bd_perm hB wAB.symm) (lv_sub hl [2, 3, 4, 5, 6] rfl)
  · refine lv_aload_n hx hb d_Law_law_1594 rfl (lv_at hl 1 rfl) ?_
    refine rdj hK hn hB.2.2 (lv_at hl 0 rfl) (lv_at hl 4 rfl) (j := 1) (by decide) d_Law_law_1595 d_Law_law_1596 d_Law_law_1598 (by decide) d_Law_law_1599 d_Law_law_1600 ?_
    refine rdj hK hn hB.2.2 (lv_at hl 0 rfl) (lv_at hl 4 rfl) (j := 2) (by decide) d_Law_law_1601 d_Law_law_1602 d_Law_law_1604 (by decide) d_Law_law_1605 d_Law_law_1606 ?_
    refine lv_aload_n hx hb d_Law_law_1607 rfl (lv_at hl 3 rfl) ?_
    refine kSW hC hSW (Nat.le_refl _) hB (h_name σ π hπ o f (xs (6 * n + 1)) (xs (6 * n + 2)) (v, σ2) hM) allw_ok kw_867 kw_0 ⟨by decide, by decide⟩ (n := 4) (by decide +kernel) kw_866 kw_865 ⟨rfl, rfl, Nat.le_of_ble_eq_true rfl, Nat.le_of_ble_eq_true rfl⟩ rfl rfl hl.1 (Nat.le_of_ble_eq_true rfl) d_Law_law_1608 ⟨by omega, by omega⟩ (fun H locs w hw hB => ?_)
    obtain ⟨π, hπ, rfl⟩ := hw
    have hB : bd D classes s.heap.size s.heap.size (wB G Gm cI cL cQ o σ2 π τ (vp_updL f 0 v.toInt64)) s H locs := bd_perm hB wAB
    refine lv_istore (lv' := [(5, .int 0), (0, .ref b), (1, .ref (G 0 0)), (2, .ref (Gm 4 0)), (3, .ref o), (4, .int (nI (6 * n)))]) hx hb d_Law_law_1611 hl (by decide) rfl (fun ls hl => ?_)
    refine lv_aload_n hx hb d_Law_law_1613 rfl (lv_at hl 3 rfl) ?_
    refine rdj hK hn hB.2.2 (lv_at hl 1 rfl) (lv_at hl 5 rfl) (j := 1) (by decide) d_Law_law_1614 d_Law_law_1615 d_Law_law_1617 (by decide) d_Law_law_1618 d_Law_law_1619 ?_
    refine rdj hK hn hB.2.2 (lv_at hl 1 rfl) (lv_at hl 5 rfl) (j := 2) (by decide) d_Law_law_1620 d_Law_law_1621 d_Law_law_1623 (by decide) d_Law_law_1624 d_Law_law_1625 ?_
    refine kV hC hB _ lkM_o rfl (c_Mo_name τ (xs (6 * n + 1)) (xs (6 * n + 2)) (eq_true ok1)) allw_ok mf_Mo_name kw_1166 kw_1167 kw_1165 ⟨rfl, rfl, Nat.le_of_ble_eq_true rfl, Nat.le_of_ble_eq_true rfl⟩ rfl rfl hl.1 (Nat.le_of_ble_eq_true rfl) d_Law_law_1626 ⟨by omega, by omega⟩ (fun H locs w hw hB => ?_)
    subst hw
    have hB : bd D classes s.heap.size s.heap.size (wB G Gm cI cL cQ o σ2 π ((m_Mo_name τ (xs (6 * n + 1)) (xs (6 * n + 2))).2) (vp_updL f 0 v.toInt64)) s H locs := hB
    refine lv_istore (lv' := [(6, .int ((m_Mo_name τ (xs (6 * n + 1)) (xs (6 * n + 2))).1)), (5, .int 0), (0, .ref b), (1, .ref (G 0 0)), (2, .ref (Gm 4 0)), (3, .ref o), (4, .int (nI (6 * n)))]) hx hb d_Law_law_1629 hl (by decide) rfl (fun ls hl => ?_)
    refine lv_aload_n hx hb d_Law_law_1631 rfl (lv_at hl 4 rfl) ?_
    refine kV hC hB _ lkM_o rfl (c_Mo_thrown ((m_Mo_name τ (xs (6 * n + 1)) (xs (6 * n + 2))).2) rfl) allw_ok mf_Mo_thrown kw_950 kw_951 kw_949 ⟨rfl, rfl, Nat.le_of_ble_eq_true rfl, Nat.le_of_ble_eq_true rfl⟩ rfl rfl hl.1 (Nat.le_of_ble_eq_true rfl) d_Law_law_1632 ⟨by omega, by omega⟩ (roK fun H locs hB => ?_)
    refine lv_iload hx hb d_Law_law_1635 (lv_at hl 1 rfl) ?_
    refine lv_icmp_eq (tgt := 1642) hx hb d_Law_law_1637 (by decide) (fun c_1 => ?_) (fun c_1 => absurd h0 c_1)
    refine lv_iload hx hb d_Law_law_1642 (lv_at hl 1 rfl) ?_
    refine lv_if_ne (tgt := 1659) hx hb d_Law_law_1644 (by decide) (fun c_2 => absurd rfl c_2) (fun c_2 => ?_)
    refine lv_aload_n hx hb d_Law_law_1647 rfl (lv_at hl 5 rfl) ?_
    refine lv_iconst (v := 0) hx hb d_Law_law_1648 (by decide) ?_
    refine va_lald hx hb hC.2.2.2.2.2.2.2.1.1 hB.1 12 1 wB_out rfl vin0 d_Law_law_1649 ?_
    refine lv_iload hx hb d_Law_law_1650 (lv_at hl 0 rfl) ?_
    refine lv_i2l hx hb d_Law_law_1652 rfl ?_
    refine W.lcmp hx hb d_Law_law_1653 ?_
    refine lv_if_eq (tgt := 1659) hx hb d_Law_law_1654 (by decide) (fun c_4 => ?_) (fun c_4 => absurd (cmp0.mpr (congrArg Int32.toInt64 hv)) c_4)
    refine lv_goto (tgt := 1662) hx hb d_Law_law_1659 (by decide) ?_
    exact hN _ π ((m_Mo_name τ (xs (6 * n + 1)) (xs (6 * n + 2))).2) _ _ _ _ _ ls hπ hRL (cst_up hc hns (by omega) (by omega)) (bd_perm hB wAB.symm) (lv_sub hl [2, 3, 4, 5, 6] rfl)
end LW
