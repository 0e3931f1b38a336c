/-! CONSTRUCTORS: worlds that grow; their order is of no account -/
section CN
variable {p : Program} {l : Launch} {e : Env} {R : Room} {s : State} {m : MethodId} {args : Array Value} {below : List Frame} {meth : Method} {c : Code} {H : Heap} {locs : List Loc} {cells slots : Nat} {Q : State → Prop}
variable {cc : ByteArray} {pc nL : Nat} {ls : Array Slot} {rest st0 : List Value} {D : va_G} {cl : List vw_C} {tys : List (ClassId × FieldType)} {NW Ts : List Cond} {N0 N1 : Nat} {ws ws' : va_W} {PW : va_W → Prop} {ret : Option FieldType} {own : String}
theorem va_D_iff {A : Nat → Prop} {w : va_W} : va_D A w ↔ (w.map Prod.fst).Nodup ∧ ∀ q ∈ w, A q.1 := by
  constructor
  · intro h
    refine ⟨?_, fun q hq => by obtain ⟨k, hk⟩ := List.getElem?_of_mem hq; exact h.2 k q hk⟩
    unfold List.Nodup
    rw [List.pairwise_iff_getElem]
    intro i j hi hj hij e
    rw [List.length_map] at hi hj
    rw [List.getElem_map, List.getElem_map] at e
    have := h.1 i j _ _ (List.getElem?_eq_getElem hi) (List.getElem?_eq_getElem hj) e
    omega
  · intro h
    refine ⟨fun i j x y hx hy e => ?_, fun k q hk => h.2 q (List.mem_of_getElem? hk)⟩
    have hn := h.1
    unfold List.Nodup at hn
    rw [List.pairwise_iff_getElem] at hn
    obtain ⟨hi, hx⟩ := List.getElem?_eq_some_iff.mp hx
    obtain ⟨hj, hy⟩ := List.getElem?_eq_some_iff.mp hy
    rcases Nat.lt_trichotomy i j with z | z | z
    · exact absurd (by rw [List.getElem_map, List.getElem_map, hx, hy]; exact e) (hn i j (by rw [List.length_map]; exact hi) (by rw [List.length_map]; exact hj) z)
    · exact z
    · exact absurd (by rw [List.getElem_map, List.getElem_map, hx, hy]; exact e.symm) (hn j i (by rw [List.length_map]; exact hj) (by rw [List.length_map]; exact hi) z)
theorem bd_perm (h : bd D cl N0 N1 ws s H locs) (hp : ws.Perm ws') : bd D cl N0 N1 ws' s H locs := by
  obtain ⟨h1, h2, h3⟩ := h
  rw [va_D_iff] at h2
  refine ⟨fun k q hk => ?_, va_D_iff.mpr ⟨(hp.map _).nodup_iff.mp h2.1, fun q hq => h2.2 q (hp.mem_iff.mpr hq)⟩, h3⟩
  obtain ⟨i, hi⟩ := List.getElem?_of_mem (hp.mem_iff.mpr (List.mem_of_getElem? hk))
  exact h1 i q hi
theorem ap_get {α : Type} {w L : List α} (k : Nat) : (w ++ L)[w.length + k]? = L[k]? := by
  rw [List.getElem?_append_right (Nat.le_add_right _ _), Nat.add_sub_cancel_left]
theorem ap_set {α : Type} {w L : List α} (k : Nat) (x : α) : (w ++ L).set (w.length + k) x = w ++ L.set k x := by
  rw [List.set_append_right _ _ (Nat.le_add_right _ _), Nat.add_sub_cancel_left]
/-- a new array of longs, of ints -/
theorem nwl {n : Int32} {N' : Nat} {cA : ClassId} (h01 : N1 = N0) (hC : cx D cl tys NW Ts N1 p s m args meth c cc nL ret own) (hB : bd D cl N0 N1 ws s H locs) (t0 : Nat) (ht : tys[t0]? = some (cA, .long)) (harr : Cond.arrayClass .long ∈ Ts) (hn : ¬ n < 0) (hN : n.toNatClampNeg = N') (hby : N' * 8 ≤ 536870912) (hcells : cells + 1 ≤ R.cells) (hslots : slots + N' ≤ R.slots) (hdg : decode cc pc = .ok (.newarray .long, 2))
    (kk : ∀ (q : Nat) (H1 : Heap), bd D cl N0 N1 (ws ++ [(q, .inl (cA, N', .inr (.inl (fun _ => 0))))]) s H1 locs → W p l e R s m args below meth c H1 locs (cells + 1) (slots + N') Q (F0 m (pc + 2) ls (.ref q :: rest))) : W p l e R s m args below meth c H locs cells slots Q (F0 m pc ls (.int n :: rest)) := by
  subst h01
  have hK := hC.2.2.2.2.2.2.2.1.1
  refine va_newa (atype := .long) (a0 := (N', .inr (.inl (fun _ => 0)))) (ty := .long) hC.1 hC.2.1 (hC.2.2.2.2.2.1 _ harr) rfl hK hB.1 hB.2.1 hB.2.2 (fun q h => Nat.le_trans hC.2.2.2.2.2.2.2.2.1 h) (fun cA => rfl) hn hN hby hcells hslots hdg (fun q cA' H1 h0 h1 h2 h3 => ?_)
  have e1 := (hK.2 t0 _ ht).2
  have e2 := (h0.2 tys.length (cA', .long) (by simp)).2
  have e3 : cA' = cA := Option.some.inj (Eq.trans (Eq.symm (show s.vm.findClass ("[" ++ FieldType.long.toString) = some cA' from e2)) (show s.vm.findClass ("[" ++ FieldType.long.toString) = some cA from e1))
  subst e3
  exact kk q H1 ⟨h1, h2, h3⟩
theorem nwi {n : Int32} {N' : Nat} {cA : ClassId} (h01 : N1 = N0) (hC : cx D cl tys NW Ts N1 p s m args meth c cc nL ret own) (hB : bd D cl N0 N1 ws s H locs) (t0 : Nat) (ht : tys[t0]? = some (cA, .int)) (harr : Cond.arrayClass .int ∈ Ts) (hn : ¬ n < 0) (hN : n.toNatClampNeg = N') (hby : N' * 4 ≤ 536870912) (hcells : cells + 1 ≤ R.cells) (hslots : slots + N' ≤ R.slots) (hdg : decode cc pc = .ok (.newarray .int, 2))
    (kk : ∀ (q : Nat) (H1 : Heap), bd D cl N0 N1 (ws ++ [(q, .inl (cA, N', .inl (fun _ => 0)))]) s H1 locs → W p l e R s m args below meth c H1 locs (cells + 1) (slots + N') Q (F0 m (pc + 2) ls (.ref q :: rest))) : W p l e R s m args below meth c H locs cells slots Q (F0 m pc ls (.int n :: rest)) := by
  subst h01
  have hK := hC.2.2.2.2.2.2.2.1.1
  refine va_newa (atype := .int) (a0 := (N', .inl (fun _ => 0))) (ty := .int) hC.1 hC.2.1 (hC.2.2.2.2.2.1 _ harr) rfl hK hB.1 hB.2.1 hB.2.2 (fun q h => Nat.le_trans hC.2.2.2.2.2.2.2.2.1 h) (fun cA => rfl) hn hN hby hcells hslots hdg (fun q cA' H1 h0 h1 h2 h3 => ?_)
  have e1 := (hK.2 t0 _ ht).2
  have e2 := (h0.2 tys.length (cA', .int) (by simp)).2
  have e3 : cA' = cA := Option.some.inj (Eq.trans (Eq.symm (show s.vm.findClass ("[" ++ FieldType.int.toString) = some cA' from e2)) (show s.vm.findClass ("[" ++ FieldType.int.toString) = some cA from e1))
  subst e3
  exact kk q H1 ⟨h1, h2, h3⟩
/-- a new array of references -/
theorem nwq {C : String} {index : Nat} {n : Int32} {N' : Nat} {cA : ClassId} (h01 : N1 = N0) (hC : cx D cl tys NW Ts N1 p s m args meth c cc nL ret own) (hB : bd D cl N0 N1 ws s H locs) (hAO : va_AO C s) (t0 : Nat) (ht : tys[t0]? = some (cA, .object C)) (hcl : Cond.classLink own index C ∈ Ts) (hn : ¬ n < 0) (hN : n.toNatClampNeg = N') (hby : N' * 4 ≤ 536870912) (hcells : cells + 1 ≤ R.cells) (hslots : slots + N' ≤ R.slots) (hdg : decode cc pc = .ok (.anewarray index, 3))
    (kk : ∀ (q : Nat) (H1 : Heap), bd D cl N0 N1 (ws ++ [(q, .inl (cA, N', .inr (.inr (.inr (.inr (fun _ => none))))))]) s H1 locs → W p l e R s m args below meth c H1 locs (cells + 1) (slots + N') Q (F0 m (pc + 3) ls (.ref q :: rest))) : W p l e R s m args below meth c H locs cells slots Q (F0 m pc ls (.int n :: rest)) := by
  subst h01
  have hK := hC.2.2.2.2.2.2.2.1.1
  refine va_newq hC.1 hC.2.1 hC.2.2.2.2.1 (hC.2.2.2.2.2.1 _ hcl) hAO hK hB.1 hB.2.1 hB.2.2 (fun q h => Nat.le_trans hC.2.2.2.2.2.2.2.2.1 h) hn hN hby hcells hslots hdg (fun q cA' H1 h0 h1 h2 h3 => ?_)
  obtain ⟨-, kA, comp, -, -, -, e1⟩ := hK.2 t0 _ ht
  obtain ⟨-, kA', comp', -, -, -, e2⟩ := h0.2 tys.length (cA', .object C) (by simp)
  have e3 : cA' = cA := Option.some.inj (e2.symm.trans e1)
  subst e3
  exact kk q H1 ⟨h1, h2, h3⟩
/-- a contract that asks for the class of the array of references too -/
def pA (D : va_G) (cl : List vw_C) (tys : List (ClassId × FieldType)) (NW : List Cond) (N0 N1 : Nat) (av : List Value) (ws : va_W) : Array Value → State → Prop := fun a U => pcx D cl tys NW N0 N1 av ws a U ∧ va_AO "SheetTrees$Change" U
theorem met_a {y : MethodName} {rm : Room} {av : List Value} {v : Option Value} {maxL : Nat} {mc ms : Nat} (hy : plainName y.cls = true) (hyc : y.cls = own) (hN : ∀ w ∈ NW, nwOk w = true)
    (body : ∀ (p : Program) (e : Env) (s : State) (m : MethodId) (below : List Frame) (meth : Method) (c : Code), cx D cl tys NW Ts N1 p s m av.toArray meth c cc maxL ret own → (y.name = "<init>" → meth.name = "<init>") → va_AO "SheetTrees$Change" s → bd D cl N0 N1 ws s s.heap [] →
      W p l e rm s m av.toArray below meth c s.heap [] 0 0 (MQ below (qx D cl N0 N1 v PW) av.toArray s mc ms (ga N1)) (entryFrame m av.toArray maxL)) :
    Met l y (Cond.code y cc maxL ret :: Ts) rm (pA D cl tys NW N0 N1 av ws) (qx D cl N0 N1 v PW) mc ms (ga N1) := by
  refine Met.ofW (cc := cc) (maxL := maxL) (ret := ret) hy rfl ?_
  intro p e s m args below meth c s₁ B hml hv
  obtain ⟨⟨rfl, hN0, hK, hP, hD⟩, hAO⟩ := hv
  have hts := atoms_spec (ws := Cond.code y cc maxL ret :: Ts) B.pre
  have hown : s.vm.findClass own = some m.cls := by rw [← hyc]; exact findClass_of_methodNamed B.named
  exact body p e s m below meth c ⟨B.exec, B.bytes, B.returns, hml, hown, fun w h => hts w (List.mem_cons_of_mem _ h), B.notSynchronized, hK, hN0, hN⟩ (fun h => by rw [← h]; exact (name_of_methodNamed B.named B.method).1) hAO ⟨hP, hD, va_S.rf⟩
theorem pA_ok {av : List Value} (hC : cx D cl tys NW Ts N1 p s m args meth c cc nL ret own) (hAO : va_AO "SheetTrees$Change" s) (hB : bd D cl N0 N1 ws s H locs) : FrameBlind (pA D cl tys NW N0 N1 av ws) ∧ ∀ U : State, U.heap = H → s.WarmedH U.vm → pA D cl tys NW N0 N1 av ws av.toArray U := by
  have hP := pcx_ok (av := av) hC hB
  exact ⟨fun a U g mk q => ⟨hP.1 a U g mk q.1, va_AO.moved (u := U) (U := U.calling g mk a) (Vm.Alike.refl U.vm) q.2⟩, fun U hU hW => ⟨hP.2 U hU hW, va_AO.moved hW.alike hAO⟩⟩
/-- a call of such a constructor -/
theorem kIA {C : String} {index n maxL mc ms b : Nat} {As : List Value} {y : MethodName} {bytes : ByteArray} {rm : Room} {v : Option Value} (hC : cx D cl tys NW Ts N1 p s m args meth c cc nL ret own) (hAO : va_AO "SheetTrees$Change" s) (hB : bd D cl N0 N1 ws s H locs)
    (hM : Met l y (Cond.code y bytes maxL none :: Ts) rm (pA D cl tys NW N0 N1 (.ref b :: As) ws) (qx D cl N0 N1 v PW) mc ms (ga N1)) (hT : ∀ w ∈ Ts, goodWord w = true) (hF : mf Ts C y bytes maxL none n) (hi : Cond.instanceMethod y ∈ Ts) (hy1 : y.name = "<init>") (hl : Cond.methodLink own index y ∈ Ts)
    (hrm : rm.cells = mc ∧ rm.slots = ms ∧ rm.frames + 1 ≤ R.frames ∧ 8 + (maxL + 11) + rm.locals ≤ R.locals) (hst : st0 = As.reverse ++ .ref b :: rest) (hn : As.length = n) (hsz : ls.size = nL) (hw8 : (rest.map fun v => v.category).sum ≤ 8) (hdg : decode cc pc = .ok (.invokespecial index, 3)) (hf : cells + mc ≤ R.cells ∧ slots + ms ≤ R.slots)
    (kk : ∀ (H1 : Heap) (locs1 : List Loc) (ws1 : va_W), PW ws1 → bd D cl N0 N1 ws1 s H1 locs1 → W p l e R s m args below meth c H1 locs1 (cells + mc) (slots + ms) Q (F0 m (pc + 3) ls (v.toList ++ rest))) : W p l e R s m args below meth c H locs cells slots Q (F0 m pc ls st0) := by
  obtain ⟨f1, f2, f3, f4, f5, f6⟩ := hF
  obtain ⟨r1, r2, r3, r4⟩ := hrm
  subst f3
  have hP := pA_ok (av := .ref b :: As) hC hAO hB
  exact kc hB (va_runI (As := As) (rest := rest) (n := n) (Ts := Ts) (own := own) ⟨hC.1, hC.2.1, hC.2.2.2.1, hC.2.2.2.2.1, hC.2.2.2.2.2.1⟩ hM (cwI n hC.2.2.2.2.2.1 (good_all hT f1) rfl r1 r2 (hC.2.2.2.2.2.1 _ f2) (hC.2.2.2.2.2.1 _ hl) (hC.2.2.2.2.2.1 _ hi) hy1 ⟨f4, f5, f6⟩ ⟨r3, r4⟩) ⟨hP.1, hP.2⟩ rfl hn hsz hst (lv_room hw8) hdg hf) kk
/-- a call of a private one of a nest mate -/
theorem kIAN {C host : String} {index n maxL mc ms b : Nat} {As : List Value} {y : MethodName} {bytes : ByteArray} {rm : Room} {v : Option Value} (hC : cx D cl tys NW Ts N1 p s m args meth c cc nL ret own) (hAO : va_AO "SheetTrees$Change" s) (hB : bd D cl N0 N1 ws s H locs)
    (hM : Met l y (Cond.code y bytes maxL none :: Ts) rm (pA D cl tys NW N0 N1 (.ref b :: As) ws) (qx D cl N0 N1 v PW) mc ms (ga N1)) (hT : ∀ w ∈ Ts, goodWord w = true) (hF : mf Ts C y bytes maxL none n) (hi : Cond.instanceMethod y ∈ Ts) (hy1 : y.name = "<init>") (hl : Cond.methodLinkNest own index y host ∈ NW)
    (hrm : rm.cells = mc ∧ rm.slots = ms ∧ rm.frames + 1 ≤ R.frames ∧ 8 + (maxL + 11) + rm.locals ≤ R.locals) (hst : st0 = As.reverse ++ .ref b :: rest) (hn : As.length = n) (hsz : ls.size = nL) (hw8 : (rest.map fun v => v.category).sum ≤ 8) (hdg : decode cc pc = .ok (.invokespecial index, 3)) (hf : cells + mc ≤ R.cells ∧ slots + ms ≤ R.slots)
    (kk : ∀ (H1 : Heap) (locs1 : List Loc) (ws1 : va_W), PW ws1 → bd D cl N0 N1 ws1 s H1 locs1 → W p l e R s m args below meth c H1 locs1 (cells + mc) (slots + ms) Q (F0 m (pc + 3) ls (v.toList ++ rest))) : W p l e R s m args below meth c H locs cells slots Q (F0 m pc ls st0) := by
  obtain ⟨f1, f2, f3, f4, f5, f6⟩ := hF
  obtain ⟨r1, r2, r3, r4⟩ := hrm
  subst f3
  have hP := pA_ok (av := .ref b :: As) hC hAO hB
  exact kc hB (va_runIN (As := As) (rest := rest) (n := n) (Ts := Ts) (own := own) (host := host) ⟨hC.1, hC.2.1, hC.2.2.2.1, hC.2.2.2.2.1, hC.2.2.2.2.2.1⟩ hM ⟨va_cnB n hC.2.2.2.2.2.1 (good_all hT f1) rfl r1 r2 (hC.2.2.2.2.2.2.2.1.2 _ hl) (hC.2.2.2.2.2.1 _ f2) ⟨f4, f5, f6⟩ ⟨r3, r4⟩, hy1, hC.2.2.2.2.2.1 _ hi⟩ ⟨hP.1, hP.2⟩ rfl hn hsz hst (lv_room hw8) hdg hf) kk
end CN
/-- the first n are v -/
def flv (n : Nat) (v : Int64) (f : Nat → Int64) : Nat → Int64 := fun j => if j < n then v else f j
theorem flv_0 (v : Int64) (f : Nat → Int64) : flv 0 v f = f := funext fun j => if_neg (Nat.not_lt_zero j)
theorem flv_s (n : Nat) (v : Int64) (f : Nat → Int64) : vp_updL (flv n v f) n v = flv (n + 1) v f := by
  funext j
  unfold vp_updL flv
  by_cases h : j = n
  · subst h; simp
  · by_cases h2 : j < n
    · simp [h, h2, show j < n + 1 by omega]
    · simp [h, h2, show ¬ j < n + 1 by omega]
/-- a row of longs -/
def la (cL : ClassId) (b n : Nat) (f : Nat → Int64) : Nat × va_E := (b, .inl (cL, n, .inr (.inl f)))
def ia (cI : ClassId) (b n : Nat) : Nat × va_E := (b, .inl (cI, n, .inl (fun _ => 0)))
def rwo (r j b : Nat) : Nat × va_E := (r, .inr (CI_Row, [.ref j, .ref b]))
section CT
variable {l : Launch} {D : va_G} {N0 N1 : Nat} {cI cL cQ : ClassId}
set_option maxHeartbeats 400000 in
theorem w_Arrays_fillL_6 {p : Program} {e : Env} {s : State} {m : MethodId} {args : Array Value} {below : List Frame} {meth : Method} {c : Code} {w : va_W} {q0 b n : Nat} (hn : n < 2 ^ 31) {f : Nat → Int64} (v : Int64) (hw : w[q0]? = some (la cL b n f)) (hC : cx D classes (tyL cI cL cQ) NWL ALLW N0 p s m args meth c b_Arrays_fillL 5 (none) R_Arrays) :
    ∀ (k i : Nat), i + k = n → ∀ (H : Heap) (locs : List Loc), bd D classes N0 N0 (w.set q0 (la cL b n (flv i v f))) s H locs → ∀ (ls : Array Slot), lv_has ls 5 [(0, .ref b), (1, .long v), (3, .int (nI i)), (4, .int (nI n))] → W p l e { frames := 0, cells := 0, slots := 0, locals := 0 } s m args below meth c H locs 0 0 (MQ below (qx D classes N0 N0 (none) (fun w' => w' = w.set q0 (la cL b n (flv n v f)))) args s 0 0 (ga N0)) (F0 m 6 ls []) := by
  have hx := hC.1
  have hb := hC.2.1
  have hlt : q0 < w.length := (List.getElem?_eq_some_iff.mp hw).1
  intro k
  induction k with
  | zero =>
    intro i hi H locs hB ls hl
    have hi : i = n := by omega
    subst hi
    refine lv_iload_n hx hb d_Arrays_fillL_6 rfl (lv_at hl 2 rfl) ?_
    refine lv_iload hx hb d_Arrays_fillL_7 (lv_at hl 3 rfl) ?_
    refine lv_icmp_ge (tgt := 22) hx hb d_Arrays_fillL_9 (by decide) (fun c_1 => ?_) (fun c_1 => absurd (Int32.le_refl _) c_1)
    exact rv hC hB rfl d_Arrays_fillL_22
  | succ k ih =>
    intro i hi H locs hB ls hl
    refine lv_iload_n hx hb d_Arrays_fillL_6 rfl (lv_at hl 2 rfl) ?_
    refine lv_iload hx hb d_Arrays_fillL_7 (lv_at hl 3 rfl) ?_
    refine lv_icmp_ge (tgt := 22) hx hb d_Arrays_fillL_9 (by decide) (fun c_1 => absurd c_1 (nI_ge (by omega) hn)) (fun c_1 => ?_)
    refine lv_aload_n hx hb d_Arrays_fillL_12 rfl (lv_at hl 0 rfl) ?_
    refine lv_iload_n hx hb d_Arrays_fillL_13 rfl (lv_at hl 2 rfl) ?_
    refine lv_lload_n hx hb d_Arrays_fillL_14 rfl (lv_at hl 1 rfl) ?_
    refine as_l rfl hC hB q0 1 (List.getElem?_set_self hlt) rfl (vp_in_nI (by omega) hn) d_Arrays_fillL_15 (ws' := w.set q0 (la cL b n (flv (i + 1) v f))) (by rw [List.set_set, nI_clamp (by omega), flv_s]; rfl) (fun H locs hB => ?_)
    refine lv_iinc (v := nI (i + 1)) (lv' := [(3, .int (nI (i + 1))), (0, .ref b), (1, .long v), (4, .int (nI n))]) hx hb d_Arrays_fillL_16 hl (k := 2) rfl (nI_1 i) (by decide) rfl (fun ls hl => ?_)
    refine lv_goto (tgt := 6) hx hb d_Arrays_fillL_19 (by decide) ?_
    exact ih (i + 1) (by omega) _ _ hB ls (lv_sub hl [1, 2, 0, 3] rfl)
set_option maxHeartbeats 400000 in
theorem c_Arrays_fillL {w : va_W} {q0 b n : Nat} (hn : n < 2 ^ 31) {f : Nat → Int64} (v : Int64) (hw : w[q0]? = some (la cL b n f)) : CM l y_Arrays_fillL b_Arrays_fillL 5 (none) { frames := 0, cells := 0, slots := 0, locals := 0 } D (tyL cI cL cQ) N0 N0 [.ref b, .long v] w (none) (fun w' => w' = w.set q0 (la cL b n (flv n v f))) 0 0 := by
  refine met_of (own := R_Arrays) (by decide) rfl nwl_ok ?_
  intro p e s m below meth c hC hin hB
  have hx := hC.1
  have hb := hC.2.1
  have hl := lv_entry ([.ref b, .long v]) (n := 5) (Nat.le_of_ble_eq_true rfl)
  rw [lg_entry_eq]
  generalize (lg_sl ([.ref b, .long v]) ++ List.replicate (5 - (lg_sl ([.ref b, .long v])).length) Slot.unset).toArray = ls at hl ⊢
  have hl : lv_has ls 5 [(0, .ref b), (1, .long v)] := hl
  refine lv_iconst (v := 0) hx hb d_Arrays_fillL_0 (by decide) ?_
  refine lv_istore_n (lv' := [(3, .int 0), (0, .ref b), (1, .long v)]) hx hb d_Arrays_fillL_1 rfl hl (by decide) rfl (fun ls hl => ?_)
  refine lv_aload_n hx hb d_Arrays_fillL_2 rfl (lv_at hl 1 rfl) ?_
  refine va_alen hx hb hC.2.2.2.2.2.2.2.1.1 hB.1 _ 1 hw rfl (v := nI n) rfl d_Arrays_fillL_3 ?_
  refine lv_istore (lv' := [(4, .int (nI n)), (3, .int 0), (0, .ref b), (1, .long v)]) hx hb d_Arrays_fillL_4 hl (by decide) rfl (fun ls hl => ?_)
  refine w_Arrays_fillL_6 hn v hw hC n 0 (by omega) _ _ ?_ ls (lv_sub hl [2, 3, 1, 0] rfl)
  have : w.set q0 (la cL b n (flv 0 v f)) = w := by
    rw [flv_0]
    exact List.ext_getElem? fun k => by
      by_cases h : k = q0
      · subst h; rw [List.getElem?_set_self (List.getElem?_eq_some_iff.mp hw).1, hw]
      · rw [List.getElem?_set_ne (Ne.symm h)]
  rw [this]
  exact hB
set_option maxHeartbeats 400000 in
theorem c_Row_init {w0 : va_W} {a j n : Nat} (hn : n ≤ 5000) (x : Int32) (hx0 : x = nI n) (v : Int64) : CM l y_Row_init b_Row_init 5 (none) { frames := 1, cells := 1, slots := n, locals := 24 } D (tyL cI cL cQ) N0 N0 [.ref a, .ref j, .int x, .long v] (w0 ++ [(a, .inr (CI_Row, [.null, .null]))]) (none) (fun w => ∃ b, w = w0 ++ [rwo a j b, la cL b n (flv n v (fun _ => 0))]) 1 n := by
  subst hx0
  refine met_of (own := R_Row) (by decide) rfl nwl_ok ?_
  intro p e s m below meth c hC hin hB
  have hx := hC.1
  have hb := hC.2.1
  have hl := lv_entry ([.ref a, .ref j, .int (nI n), .long v]) (n := 5) (Nat.le_of_ble_eq_true rfl)
  rw [lg_entry_eq]
  generalize (lg_sl ([.ref a, .ref j, .int (nI n), .long v]) ++ List.replicate (5 - (lg_sl ([.ref a, .ref j, .int (nI n), .long v])).length) Slot.unset).toArray = ls at hl ⊢
  have hl : lv_has ls 5 [(0, .ref a), (1, .ref j), (2, .int (nI n)), (3, .long v)] := hl
  have h0n : ¬ nI n < 0 := by rw [Int32.not_lt]; exact nI_le (a := 0) (by omega) (by omega)
  have hm : (if nI n < 0 then (0 : Int32) else nI n) = nI n := if_neg h0n
  refine lv_aload_n hx hb d_Row_init_0 rfl (lv_at hl 0 rfl) ?_
  refine oi hC kw_60 kw_23 kw_24 hl.1 d_Row_init_1 (Nat.le_of_ble_eq_true rfl) (Nat.le_of_ble_eq_true rfl) ?_
  refine lv_aload_n hx hb d_Row_init_4 rfl (lv_at hl 0 rfl) ?_
  refine lv_aload_n hx hb d_Row_init_5 rfl (lv_at hl 1 rfl) ?_
  refine ptF (ty := .object "SheetTrees$Journal") rfl hC (hin rfl) hB (w0.length + 0) (ap_get 0) rfl i_Row t_Row t_Row_ok n_Row 0 (by decide) rfl rfl rfl kw_67 (by decide +kernel) rfl rfl (Nat.le_of_ble_eq_true rfl) d_Row_init_6 (ap_set _ _) (fun H locs hB => ?_)
  refine lv_aload_n hx hb d_Row_init_9 rfl (lv_at hl 0 rfl) ?_
  refine lv_iload_n hx hb d_Row_init_10 rfl (lv_at hl 2 rfl) ?_
  refine lv_iconst (v := 0) hx hb d_Row_init_11 (by decide) ?_
  refine va_mmax hx hb (hC.2.2.2.1.trans hl.1.symm) hC.2.2.2.2.1 (hC.2.2.2.2.2.1 _ kw_61) (hC.2.2.2.2.2.1 _ kw_62) (hC.2.2.2.2.2.1 _ kw_5) (hC.2.2.2.2.2.1 _ kw_63) (Nat.le_of_ble_eq_true rfl) (Nat.le_of_ble_eq_true rfl) (Nat.zero_le _) (Nat.zero_le _) d_Row_init_12 ?_
  rw [hm]
  refine nwl (N' := n) rfl hC hB 1 rfl kw_74 h0n (nI_clamp (by omega)) (by omega) (Nat.le_of_ble_eq_true rfl) (Nat.le_of_eq (Nat.zero_add _)) d_Row_init_15 (fun b H hB => ?_)
  have hB : bd D classes N0 N0 (w0 ++ [(a, .inr (CI_Row, [.ref j, .null])), la cL b n (fun _ => 0)]) s H locs := by
    have hB := hB; rw [List.append_assoc] at hB; exact hB
  refine ptF (ty := .array .long) rfl hC (hin rfl) hB (w0.length + 0) (ap_get 0) rfl i_Row t_Row t_Row_ok n_Row 1 (by decide) rfl rfl rfl kw_68 (by decide +kernel) rfl rfl (Nat.le_of_ble_eq_true rfl) d_Row_init_17 (ap_set _ _) (fun H locs hB => ?_)
  have hB : bd D classes N0 N0 (w0 ++ [rwo a j b, la cL b n (fun _ => 0)]) s H locs := hB
  refine lv_aload_n hx hb d_Row_init_20 rfl (lv_at hl 0 rfl) ?_
  refine gt hC hB (w0.length + 0) (ap_get 0) rfl i_Row 1 (by decide) rfl kw_68 rfl d_Row_init_21 ?_
  refine lv_lload_n hx hb d_Row_init_24 rfl (lv_at hl 3 rfl) ?_
  refine kS hC hB (c_Arrays_fillL (q0 := w0.length + 1) (b := b) (n := n) (f := fun _ => 0) (by omega) v (ap_get 1)) allw_ok mf_Arrays_fillL kw_65 kw_64 ⟨rfl, rfl, Nat.le_of_ble_eq_true rfl, Nat.le_of_ble_eq_true rfl⟩ rfl rfl hl.1 (Nat.le_of_ble_eq_true rfl) d_Row_init_25 ⟨Nat.le_of_ble_eq_true rfl, Nat.le_of_eq (Nat.zero_add _)⟩ (fun H locs w hw hB => ?_)
  refine W.widen (k := 1) (n := n) (Nat.le_of_ble_eq_true rfl) (Nat.le_of_eq (by omega)) ?_
  refine rv hC hB ⟨b, ?_⟩ d_Row_init_28
  rw [hw]
  exact ap_set 1 _
set_option maxHeartbeats 400000 in
/-- restore, of a row that lies anywhere -/
theorem cg_Row_restore {w : va_W} {q0 q1 r j b n : Nat} {f : Nat → Int64} (hn : n < 2 ^ 31) (h0 : w[q0]? = some (rwo r j b)) (h1 : w[q1]? = some (la cL b n f)) (i : Nat) (hi : i < n) (x : Int32) (hxi : x = nI i) (v : Int64) : CM l y_Row_restore b_Row_restore 4 (none) { frames := 0, cells := 0, slots := 0, locals := 0 } D (tyL cI cL cQ) N0 N0 [.ref r, .int x, .long v] w (none) (fun w' => w' = w.set q1 (la cL b n (vp_updL f i v))) 0 0 := by
  subst hxi
  refine met_of (own := R_Row) (by decide) rfl nwl_ok ?_
  intro p e s m below meth c hC hin hB
  have hx := hC.1
  have hb := hC.2.1
  have hl := lv_entry ([.ref r, .int (nI i), .long v]) (n := 4) (Nat.le_of_ble_eq_true rfl)
  rw [lg_entry_eq]
  generalize (lg_sl ([.ref r, .int (nI i), .long v]) ++ List.replicate (4 - (lg_sl ([.ref r, .int (nI i), .long v])).length) Slot.unset).toArray = ls at hl ⊢
  have hl : lv_has ls 4 [(0, .ref r), (1, .int (nI i)), (2, .long v)] := hl
  refine lv_iload_n hx hb d_Row_restore_0 rfl (lv_at hl 1 rfl) ?_
  refine lv_if_lt (tgt := 20) hx hb d_Row_restore_1 (by decide) (fun c_1 => absurd c_1 (by rw [Int32.not_lt]; exact nI_le (a := 0) (by omega) (by omega))) (fun c_1 => ?_)
  refine lv_iload_n hx hb d_Row_restore_4 rfl (lv_at hl 1 rfl) ?_
  refine lv_aload_n hx hb d_Row_restore_5 rfl (lv_at hl 0 rfl) ?_
  refine gt hC hB q0 h0 rfl i_Row 1 (by decide) rfl kw_68 rfl d_Row_restore_6 ?_
  refine va_alen hx hb hC.2.2.2.2.2.2.2.1.1 hB.1 _ 1 h1 rfl (v := nI n) rfl d_Row_restore_9 ?_
  refine lv_icmp_ge (tgt := 20) hx hb d_Row_restore_10 (by decide) (fun c_1 => absurd c_1 (nI_ge (by omega) hn)) (fun c_1 => ?_)
  refine lv_aload_n hx hb d_Row_restore_13 rfl (lv_at hl 0 rfl) ?_
  refine gt hC hB q0 h0 rfl i_Row 1 (by decide) rfl kw_68 rfl d_Row_restore_14 ?_
  refine lv_iload_n hx hb d_Row_restore_17 rfl (lv_at hl 1 rfl) ?_
  refine lv_lload_n hx hb d_Row_restore_18 rfl (lv_at hl 2 rfl) ?_
  refine as_l rfl hC hB q1 1 h1 rfl (vp_in_nI hi hn) d_Row_restore_19 rfl (fun H locs hB => ?_)
  exact rv hC hB (by rw [nI_clamp (by omega)]; rfl) d_Row_restore_20
set_option maxHeartbeats 400000 in
theorem c_Journal_init {w0 : va_W} {a : Nat} : Met l y_Journal_init (Cond.code y_Journal_init b_Journal_init 1 none :: ALLW) { frames := 1, cells := 1, slots := 50, locals := 12 } (pA D classes (tyL cI cL cQ) NWL N0 N0 [.ref a] (w0 ++ [(a, .inr (CI_Journal, [.null, .int 0, .int 0, .null, .null]))])) (qx D classes N0 N0 none (fun w => ∃ b, w = w0 ++ [(a, .inr (CI_Journal, [.ref b, .int 0, .int 0, .null, .null])), (b, .inl (cQ, 50, .inr (.inr (.inr (.inr (fun _ => none))))))])) 1 50 (ga N0) := by
  refine met_a (own := R_Journal) (by decide) rfl nwl_ok ?_
  intro p e s m below meth c hC hin hAO hB
  have hx := hC.1
  have hb := hC.2.1
  have hl := lv_entry ([.ref a]) (n := 1) (Nat.le_of_ble_eq_true rfl)
  rw [lg_entry_eq]
  generalize (lg_sl ([.ref a]) ++ List.replicate (1 - (lg_sl ([.ref a])).length) Slot.unset).toArray = ls at hl ⊢
  have hl : lv_has ls 1 [(0, .ref a)] := hl
  refine lv_aload_n hx hb d_Journal_init_0 rfl (lv_at hl 0 rfl) ?_
  refine oi hC kw_30 kw_23 kw_24 hl.1 d_Journal_init_1 (Nat.le_of_ble_eq_true rfl) (Nat.le_of_ble_eq_true rfl) ?_
  refine lv_aload_n hx hb d_Journal_init_4 rfl (lv_at hl 0 rfl) ?_
  refine lv_bipush (v := 50) hx hb d_Journal_init_5 (by decide) ?_
  refine nwq (N' := 50) rfl hC hB hAO 2 rfl kw_31 (by decide) (by decide) (by decide) (Nat.le_of_ble_eq_true rfl) (Nat.le_of_ble_eq_true rfl) d_Journal_init_7 (fun b H hB => ?_)
  have hB : bd D classes N0 N0 (w0 ++ [(a, .inr (CI_Journal, [.null, .int 0, .int 0, .null, .null])), (b, .inl (cQ, 50, .inr (.inr (.inr (.inr (fun _ => none))))))]) s H [] := by
    have hB := hB; rw [List.append_assoc] at hB; exact hB
  refine ptF (ty := .array (.object "SheetTrees$Change")) rfl hC (hin rfl) hB (w0.length + 0) (ap_get 0) rfl i_Journal t_Journal t_Journal_ok n_Journal 0 (by decide) rfl rfl rfl kw_33 (by decide +kernel) rfl rfl (Nat.le_of_ble_eq_true rfl) d_Journal_init_10 (ap_set _ _) (fun H locs hB => ?_)
  exact rv hC hB ⟨b, rfl⟩ d_Journal_init_13
end CT
