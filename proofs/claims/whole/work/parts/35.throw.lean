/-! METHODS THAT THROW: which of the two a call does is known beforehand, so a throwing call has a contract of its own -/
def STRL : List (String × Nat × String) := [("SheetTrees", 259, "no such sheet"), ("SheetTrees", 264, "no such placement, or it is gone"), ("SheetTrees", 266, "no such name"), ("SheetTrees", 133, "no such letter, or number of gates"), ("SheetTrees", 271, "no such part"), ("SheetTrees", 276, "no such gate"), ("SheetTrees", 171, "no such rule"), ("SheetTrees", 283, "no such variant"), ("SheetTrees", 285, "no such page"), ("SheetTrees", 218, "a page has no such thing"), ("SheetTrees", 278, "no such unit")]
/-- what a throw asks of the heap: Throwable's two statics hold references -/
def SWl : List Cond := [.laysStatic Bundle.tN "UNASSIGNED_STACK" Bundle.steD, .laysStatic Bundle.tN "SUPPRESSED_SENTINEL" Bundle.listD, .isRef (.static Bundle.tN "UNASSIGNED_STACK" Bundle.steD), .isRef (.static Bundle.tN "SUPPRESSED_SENTINEL" Bundle.listD)]
/-- words on the tables that are carried beside the good ones -/
def SWn : List Cond := [.declares (Bundle.initS "java/lang/RuntimeException"), .declares (Bundle.initS "java/lang/Exception"), .declares (Bundle.initS Bundle.tN), .castable "java/lang/IndexOutOfBoundsException" "java/lang/IndexOutOfBoundsException", .castable "java/lang/IllegalArgumentException" "java/lang/IllegalArgumentException"]
def SW (U : State) : Prop := (∀ w ∈ SWl, w.before #[] U = true) ∧ (∀ x ∈ STRL, ∃ a, vk_R x.1 x.2.1 x.2.2 a U) ∧ ∀ w ∈ SWn, va_Nw w U
theorem sw1 {s U : State} {n d : String} (ha : s.vm.Alike U.vm) (hk : ∀ q : Nat, q < s.heap.size → U.heap[q]? = s.heap[q]?) (h1 : (Cond.laysStatic Bundle.tN n d).before #[] s = true) (h2 : (Cond.isRef (.static Bundle.tN n d)).before #[] s = true) : (Cond.laysStatic Bundle.tN n d).before #[] U = true ∧ (Cond.isRef (.static Bundle.tN n d)).before #[] U = true := by
  obtain ⟨c, k, i, f, a, cell, hc, hi, hst, hsa, hcell, hs, hcls, hlt, hty⟩ := Cond.laysStatic_spec h1
  obtain ⟨k', hi', hek⟩ := State.fieldFound?_setVm ha hi
  have hi2 : U.fieldFound? Bundle.tN n d = some (c, k', i, f) := hi'
  have hcU : U.heap[a]? = some cell := by rw [hk a (Array.getElem?_eq_some_iff.mp hcell).1]; exact hcell
  have hv : cell.slots[f.slot]? = some cell.slots[f.slot] := Array.getElem?_eq_getElem hlt
  refine ⟨Cond.laysStatic_of (by rw [ha.findClass]; exact hc) hi2 hst (by rw [hek]; exact hsa) hcU hs hcls hlt (by rw [hek]; exact hty), ?_⟩
  have e1 : (Term.static Bundle.tN n d).eval #[] s none [] s = some cell.slots[f.slot] := Term.static_eval hi hst hsa hcell hs hv
  have e2 : (Term.static Bundle.tN n d).eval #[] U none [] U = some cell.slots[f.slot] := Term.static_eval hi2 hst (by rw [hek]; exact hsa) hcU hs hv
  simp only [Cond.before, Cond.holds, Cond.value, e1] at h2
  simp only [Cond.before, Cond.holds, Cond.value, e2]
  exact h2
theorem sw_to {s U : State} (hwm : s.WarmedH U.vm) (hk : ∀ q : Nat, q < s.heap.size → U.heap[q]? = s.heap[q]?) (h : SW s) : SW U := by
  have ha := hwm.alike
  have p1 := sw1 ha hk (h.1 _ (List.mem_of_getElem? (i := 0) rfl)) (h.1 _ (List.mem_of_getElem? (i := 2) rfl))
  have p2 := sw1 ha hk (h.1 _ (List.mem_of_getElem? (i := 1) rfl)) (h.1 _ (List.mem_of_getElem? (i := 3) rfl))
  refine ⟨fun w hw => ?_, fun x hx => (h.2.1 x hx).elim fun a ha => ⟨a, vk_R.warm hwm ha⟩, fun w hw => ?_⟩
  rotate_left
  · have h9 := h.2.2 w hw
    simp only [SWn, List.mem_cons, List.not_mem_nil, or_false] at hw
    rcases hw with rfl | rfl | rfl | rfl | rfl
    · exact va_Nw.warmD hwm h9
    · exact va_Nw.warmD hwm h9
    · exact va_Nw.warmD hwm h9
    · exact va_Nw.warmC hwm h9
    · exact va_Nw.warmC hwm h9
  simp only [SWl, List.mem_cons, List.not_mem_nil, or_false] at hw
  rcases hw with rfl | rfl | rfl | rfl
  · exact p1.1
  · exact p2.1
  · exact p1.2
  · exact p2.2
def pX (D : va_G) (cl : List vw_C) (tys : List (ClassId × FieldType)) (NW : List Cond) (N0 N1 : Nat) (av : List Value) (ws : va_W) : Array Value → State → Prop := fun a U => pcx D cl tys NW N0 N1 av ws a U ∧ SW U
def qT (D : va_G) (cl : List vw_C) (N0 N1 : Nat) (En : String) (ws : va_W) (mc ms : Nat) : Array Value → State → Outcome → State → Prop := fun _ st o t =>
  ∃ (q : Addr) (ce : Cell) (L : List Loc), o = .threw q ∧ t.heap[q]? = some ce ∧ ce.vm = .none ∧ st.vm.findClass En = some ce.cls ∧ wd D cl N0 ws t ∧ va_F (ga N1) st t ∧ st.WarmedH t.vm ∧ st.sameButNew ({ t with vm := st.vm } : State) L mc ms ∧ ∀ z ∈ L, ga N1 z.base
def MX (l : Launch) (y : MethodName) (bytes : ByteArray) (maxL : Nat) (rt : Option FieldType) (rm : Room) (D : va_G) (cl : List vw_C) (tys : List (ClassId × FieldType)) (NW Ts : List Cond) (N0 N1 : Nat) (av : List Value) (ws : va_W) (En : String) (mc ms : Nat) : Prop :=
  MetFree l y (headSpec (Cond.code y bytes maxL rt :: Ts) rm) (pX D cl tys NW N0 N1 av ws) (fun _ _ _ _ _ => True) (qT D cl N0 N1 En ws mc ms)
section TH
variable {p : Program} {l : Launch} {e : Env} {R : Room} {s : State} {m : MethodId} {args : Array Value} {below : List Frame} {meth : Method} {c : Code} {H : Heap} {locs : List Loc} {cells slots : Nat} {Q : State → Prop}
variable {cc : ByteArray} {pc nL : Nat} {ls : Array Slot} {rest st0 : List Value} {D : va_G} {cl : List vw_C} {tys : List (ClassId × FieldType)} {NW Ts : List Cond} {N0 N1 : Nat} {ws ws' : va_W} {PW : va_W → Prop} {ret : Option FieldType} {own : String}
/-- the frame g, with q thrown over it -/
def WX (p : Program) (l : Launch) (e : Env) (R : Room) (s : State) (m : MethodId) (args : Array Value) (below : List Frame) (meth : Method) (c : Code) (H : Heap) (locs : List Loc) (cells slots : Nat) (Q : State → Prop) (g : JFrame) (q : Addr) : Prop :=
  ∀ T : State, T.heap = H → Stand p l e R s m args below meth c T locs cells slots → ∃ t, Steps p.tables e below ((T.setTop g).pushFrame (.throwing q)) t ∧ Q t
/-- the callee's end, in the caller's words -/
theorem tx_back {U : State} (X : Stand p l e R s m args below meth c U locs cells slots) {g : JFrame} (hg : g.method = m) (hsize : g.locals.size = c.maxLocals) {ig : Instr} {len : Nat} (hdg : decode c.code g.pc = .ok (ig, len)) (hw8 : 2 * g.monitorRoom + (g.stack.map fun v => v.category).sum ≤ 8)
    {y : MethodName} {bytes : ByteArray} {maxL mc ms : Nat} {rt : Option FieldType} {rm : Room} {av : List Value} {En : String} (hM : MX l y bytes maxL rt rm D cl tys NW Ts N0 N1 av ws En mc ms) {mk : MethodId} (hn : U.methodNamed? y = some mk)
    (hws : ∀ w ∈ Cond.code y bytes maxL rt :: Ts, ∀ (a' : Array Value) (U' : State), s.WarmedH U'.vm → w.before a' U' = true) (hini : ∀ (a' : Array Value) (U' : State), s.WarmedH U'.vm → (Cond.initialized y.cls).before a' U' = true)
    (hrm : rm.cells = mc ∧ rm.slots = ms ∧ rm.frames + 1 ≤ R.frames ∧ 8 + (maxL + 11) + rm.locals ≤ R.locals) (hf : cells + mc ≤ R.cells ∧ slots + ms ≤ R.slots) (hP : pX D cl tys NW N0 N1 av ws av.toArray (U.calling g mk av.toArray)) :
    ∃ (q : Addr) (ce : Cell) (T' : State) (L : List Loc), Stand p l e R s m args below meth c T' (locs ++ L) (cells + mc) (slots + ms) ∧ T'.heap[q]? = some ce ∧ ce.vm = .none ∧ U.vm.findClass En = some ce.cls ∧ wd D cl N0 ws T' ∧ va_F (ga N1) U T' ∧ (∀ z ∈ L, ga N1 z.base) ∧
      Steps p.tables e below (doInvoke e (U.setTop g) [] mk av.toArray).1 ((T'.setTop g).pushFrame (.throwing q)) := by
  obtain ⟨r1, r2, r3, r4⟩ := hrm
  have hcode := hws _ List.mem_cons_self av.toArray U X.warmed
  obtain ⟨methY, cY, hmY, hcY, -, hlY, -, -, -, -⟩ := Cond.code_spec hn hcode
  obtain ⟨kY, hkY, -⟩ := className_of_methodNamed hn
  have hinY : kY.init = .initialized := Cond.initialized_spec (findClass_of_methodNamed hn) hkY (hini av.toArray U X.warmed)
  have h : At U g.method c below := by rw [hg]; exact X.here
  have happ : (headSpec (Cond.code y bytes maxL rt :: Ts) rm).appliesLoose y e.platform (U.calling g mk av.toArray) = true :=
    Spec.appliesLoose_calling (g := g) h hdg hn hkY hinY (X.room_calling (g := g) (R' := (headSpec (Cond.code y bytes maxL rt :: Ts) rm).room) hsize hmY hcY r3 (by rw [hlY]; show _ + _ + rm.locals ≤ _; omega) (by show cells + rm.cells ≤ _; omega) (by show slots + rm.slots ≤ _; omega)) (atoms_intro fun w hw => hws w hw _ _ X.warmed)
  obtain ⟨mid, hmid⟩ := h.above
  have hfr : (U.setTop g).frames = (.java g :: mid) ++ below := by rw [State.frames_setTop' g h.top, hmid]; rfl
  obtain ⟨o, s2, hsteps, -, hend, hq⟩ := Steps.callFree hM p X.admits X.cas X.clock (acts := []) hfr happ hP trivial
  have hq' : qT D cl N0 N1 En ws mc ms av.toArray (U.calling g mk av.toArray) o s2 := hq
  obtain ⟨q, ce, L, rfl, h1, h2, h3, h4, h5, hW, hsm, hL⟩ := hq'
  obtain ⟨e2, q2, q3, q4, q5, q6⟩ := hsm
  have e3 : s2 = ({ (U.calling g mk av.toArray).setFrames s2.frames with heap := s2.heap, slotsUsed := s2.slotsUsed } : State).setVm s2.vm := by
    have : s2 = ({ s2 with vm := (U.calling g mk av.toArray).vm } : State).setVm s2.vm := rfl
    rw [e2] at this
    exact this
  have hW' : U.WarmedH s2.vm := hW
  have hend' : s2.frames = .throwing q :: (U.setTop g).frames := hend
  obtain ⟨g0, hg0⟩ := Option.isSome_iff_exists.mp h.top
  obtain ⟨r, hr⟩ := State.topJava?_eq_some.mp hg0
  have hsame : U.sameButNew ({ U with heap := s2.heap, slotsUsed := s2.slotsUsed } : State) L mc ms := by
    refine ⟨?_, q2, q3, q4, q5, q6⟩
    obtain ⟨t, ht, -⟩ := State.frames_cons hr
    show ({ U with heap := s2.heap, slotsUsed := s2.slotsUsed } : State) = { U.setFrames U.frames with heap := s2.heap, slotsUsed := s2.slotsUsed }
    rw [State.setFrames_self ht]
  have hs2 : s2 = ((({ U with heap := s2.heap, slotsUsed := s2.slotsUsed } : State).setVm s2.vm).setTop g).pushFrame (.throwing q) := by
    have hr' : (({ U with heap := s2.heap, slotsUsed := s2.slotsUsed } : State).setVm s2.vm).frames = .java g0 :: r := hr
    refine e3.trans ?_
    rw [hend', State.calling_eq h.top, State.setFrames_setFrames, State.frames_setTop' g h.top, State.setTop_of_frames _ hr', hr]
    unfold State.pushFrame
    rw [State.setFrames_setFrames, State.frames_setFrames _ (State.cur_lt_of_frames hr')]
    rfl
  subst hg
  refine ⟨q, ce, (({ U with heap := s2.heap, slotsUsed := s2.slotsUsed } : State).setVm s2.vm), L, ⟨X.admits, X.cas, X.clock, X.frames, X.room, X.hears, X.method, X.code, (X.here.setHeapUsed s2.heap s2.slotsUsed).setVm hW'.alike, X.tail, State.WarmedH.trans X.warmed hW', X.limits, X.bytes, X.same.trans (hsame.setVm s.vm)⟩, h1, h2, h3, h4, h5, hL, ?_⟩
  rw [← hs2]
  exact hsteps
/-- a call of an object's method that throws -/
theorem kx {C : String} {T0 : u_T} {N ci index n maxL mc ms b : Nat} {fs As : List Value} {y : MethodName} {bytes : ByteArray} {rt : Option FieldType} {rm : Room} {En : String} (hC : cx D cl tys NW Ts s.heap.size p s m args meth c cc nL ret own) (hSW : SW s) (hB : bd D cl N0 s.heap.size ws s H locs) (q0 : Nat) (he : ws[q0]? = some (b, .inr (ci, fs))) (hc : cl[ci]? = some (C, T0, N))
    (hM : MX l y bytes maxL rt rm D cl tys NW Ts N0 s.heap.size (.ref b :: As) ws En mc ms) (hT : ∀ w ∈ Ts, goodWord w = true) (hF : mf Ts C y bytes maxL rt n) (hi : Cond.instanceMethod y ∈ Ts) (hs : Cond.selects C y y ∈ Ts) (hl : Cond.methodLink own index y ∈ Ts)
    (hrm : rm.cells = mc ∧ rm.slots = ms ∧ rm.frames + 1 ≤ R.frames ∧ 8 + (maxL + 11) + rm.locals ≤ R.locals) (hst : st0 = As.reverse ++ .ref b :: rest) (hn : As.length = n) (hsz : ls.size = nL) (hw8 : (rest.map fun v => v.category).sum ≤ 8) (hdg : decode cc pc = .ok (.invokevirtual index, 3)) (hf : cells + mc ≤ R.cells ∧ slots + ms ≤ R.slots)
    (kk : ∀ (q : Addr) (ce : Cell) (H1 : Heap) (locs1 : List Loc), bd D cl N0 s.heap.size ws s H1 locs1 → H1[q]? = some ce → ce.vm = .none → s.vm.findClass En = some ce.cls → WX p l e R s m args below meth c H1 locs1 (cells + mc) (slots + ms) Q (F0 m pc ls rest) q) : W p l e R s m args below meth c H locs cells slots Q (F0 m pc ls st0) := by
  obtain ⟨f1, f2, f3, f4, f5, f6⟩ := hF
  subst f3
  obtain ⟨cellB, hcB, hoB, hclB⟩ := va_recv hC.2.2.2.2.2.2.2.1.1 hB.1 hc he
  have hts := hC.2.2.2.2.2.1
  have hP := pcx_ok (av := .ref b :: As) hC hB
  intro T hTH X
  obtain ⟨mk, methM, hnamed, hmethM, hstM, habM⟩ := Cond.instanceMethod_spec (hts _ hi)
  obtain ⟨methM', cM, hmethM', -, -, -, -, -, -, hsigM⟩ := Cond.code_spec hnamed (hts _ f1)
  cases hmethM.symm.trans hmethM'
  obtain ⟨c2, r2, m2, q1, q2, q3, q4, kP, hkP, hkPi⟩ := Cond.selects_spec (hts _ hs)
  cases hclB.symm.trans q1
  cases (State.methodFound?_of_named hnamed ⟨f4, f5⟩).symm.trans q2
  cases hnamed.symm.trans q3
  have hselP : selectMethod e.platform s.vm cellB.cls mk = .method mk := by rw [Launch.admits_selectMethod X.admits]; exact q4
  have hlen : As.length = methM.sig.parameters.length := by
    rw [hsigM] at f6
    exact hn.trans (Option.some.inj f6).symm
  have hdc : decode c.code pc = .ok (.invokevirtual index, 3) := by rw [hC.2.1]; exact hdg
  obtain ⟨vm1, X1, hstep1⟩ := X.invokevirtual hC.1 hC.2.2.2.2.1 (hts _ hl) hnamed hmethM hstM hkP hkPi ⟨f4, f5⟩ (a := b) (cell := cellB) (by rw [hTH]; exact hcB)
    (fun z h => by rw [h] at hoB; cases hoB) hselP hmethM habM hkP hkPi (g := F0 m pc ls st0) rfl (argsL := As) (rest := rest) hlen hst hdc
  have hGW : ∀ w ∈ Cond.code y bytes maxL rt :: Ts, ∀ (a' : Array Value) (U' : State), s.WarmedH U'.vm → w.before a' U' = true := pay_in hts (good_all hT f1)
  have hini : ∀ (a' : Array Value) (U' : State), s.WarmedH U'.vm → (Cond.initialized y.cls).before a' U' = true := fun a' U' hW => word_at hW (good_of_word (hT _ f2)) (hts _ f2)
  have hpre : pX D cl tys NW N0 s.heap.size (.ref b :: As) ws (Value.ref b :: As).toArray ((T.setVm vm1).calling (F0 m pc ls rest) mk (Value.ref b :: As).toArray) := ⟨hP.1 _ _ _ _ (hP.2 (T.setVm vm1) hTH X1.warmed), sw_to (U := (T.setVm vm1).calling (F0 m pc ls rest) mk (Value.ref b :: As).toArray) X1.warmed (fun q hq => by
    have h9 : T.heap[q]? = s.heap[q]? := by rw [hTH]; exact hB.2.2.2.1 q hq (Nat.not_le.mpr hq)
    exact h9) hSW⟩
  obtain ⟨q, ce, T', L, X2, g1, g2, g3, g4, g5, g6, hsteps⟩ := tx_back X1 (g := F0 m pc ls rest) rfl (hsz.trans hC.2.2.2.1.symm) hdc (lv_room hw8) hM (X1.named hnamed) hGW hini hrm hf hpre
  obtain ⟨hz, hk⟩ := g5
  have hz' : H.size ≤ T'.heap.size := by rw [← hTH]; exact hz
  have hk' : ∀ z : Nat, z < H.size → ¬ ga s.heap.size z → T'.heap[z]? = H[z]? := fun z h1 h2 => by
    have := hk z (by rw [← hTH] at h1; exact h1) h2
    rw [this, ← hTH]
    rfl
  obtain ⟨t2, a1, b1⟩ := kk q ce T'.heap (locs ++ L) ⟨g4.1, g4.2, Nat.le_trans hB.2.2.1 hz', fun z h1 h2 => by rw [hk' z (Nat.lt_of_lt_of_le h1 hB.2.2.1) h2]; exact hB.2.2.2.1 z h1 h2, fun z hq => by
      rcases List.mem_append.mp hq with h | h
      · exact hB.2.2.2.2 z h
      · exact g6 z h⟩ g1 g2 (by rw [← X1.warmed.alike.findClass]; exact g3) T' rfl X2
  exact ⟨t2, hstep1 _ fun acts => by rw [doInvoke_state]; exact hsteps.trans a1, b1⟩
/-- it goes on to this method's own caller -/
theorem tx_out {En : String} {ce : Cell} {q : Addr} {mc ms : Nat} (hC : cx D cl tys NW Ts N1 p s m args meth c cc nL ret own) (hB : bd D cl N0 N1 ws s H locs) (hout : ∀ x ∈ c.exceptionTable.toList, covers x pc = false) (hce : H[q]? = some ce) (hv : ce.vm = .none) (hcl : s.vm.findClass En = some ce.cls) (h1 : cells ≤ mc) (h2 : slots ≤ ms) :
    WX p l e R s m args below meth c H locs cells slots (fun t => ∃ o, t.status = .running ∧ Ended t below o ∧ qT D cl N0 N1 En ws mc ms args s o t) (F0 m pc ls rest) q := by
  intro T hT X
  obtain ⟨st1, hrun, hend, hW, hsm⟩ := X.leaveThrown q (g := F0 m pc ls rest) rfl rfl rfl hout hC.2.2.2.2.2.2.1
  have hh : (T.setFrames (.throwing q :: below)).heap = H := hT
  exact ⟨_, st1, .threw q, hrun, hend, q, ce, locs, rfl, by rw [hh]; exact hce, hv, hcl, ⟨by rw [hh]; exact hB.1, hB.2.1⟩, hB.2.2.F hh, hW, hsm.mono h1 h2, hB.2.2.2.2⟩
/-- a throwing contract out of its walk -/
theorem mx_of {y : MethodName} {rm : Room} {av : List Value} {maxL : Nat} {mc ms : Nat} {En : String} (hy : plainName y.cls = true) (hyc : y.cls = own) (hN : ∀ w ∈ NW, nwOk w = true)
    (body : ∀ (p : Program) (e : Env) (s : State) (m : MethodId) (below : List Frame) (meth : Method) (c : Code), cx D cl tys NW Ts s.heap.size p s m av.toArray meth c cc maxL ret own → c.exceptionTable.toList = [] → SW s → bd D cl N0 s.heap.size ws s s.heap [] →
      W p l e rm s m av.toArray below meth c s.heap [] 0 0 (fun t => ∃ o, t.status = .running ∧ Ended t below o ∧ qT D cl N0 s.heap.size En ws mc ms av.toArray s o t) (entryFrame m av.toArray maxL)) :
    MX l y cc maxL ret rm D cl tys NW Ts N0 N1 av ws En mc ms := by
  refine MetFree.of_bodyS (code := cc) (maxLocals := maxL) (ret := ret) hy ?_ ?_
  · intro args s m h hn
    obtain ⟨meth, c, h1, h2, h3, h4, h5, h6, -, -⟩ := Cond.code_spec hn (atoms_spec (ws := Cond.code y cc maxL ret :: Ts) h _ List.mem_cons_self)
    exact ⟨meth, c, h1, h2, h3, h4, h5, h6⟩
  · intro p e s m args below meth c s1 B hml hv _
    obtain ⟨⟨rfl, hN0, hK, hP, hD⟩, hSW⟩ := hv
    have hts := atoms_spec (ws := Cond.code y cc maxL ret :: Ts) B.pre
    have hown : s.vm.findClass own = some m.cls := by rw [← hyc]; exact findClass_of_methodNamed B.named
    have hh0 : s1.heap = s.heap := by rw [B.state]; rfl
    have hex : c.exceptionTable.toList = [] := by
      have h9 := BodyLoose.noHandlers B (hts _ List.mem_cons_self)
      simpa using h9
    obtain ⟨t, a1, o, b1, b2, b3⟩ := body p e s m below meth c ⟨B.exec, B.bytes, B.returns, hml, hown, fun w h => hts w (List.mem_cons_of_mem _ h), B.notSynchronized, hK, Nat.le_refl _, hN⟩ hex hSW ⟨hP, hD, va_S.rf⟩ s1 hh0 (Stand.of_body B)
    obtain ⟨q, ce, L, g1, g2, g3, g4, g5, g6, g7, g8, g9⟩ := b3
    exact ⟨t, o, a1, b1, b2, q, ce, L, g1, g2, g3, g4, g5, ⟨g6.1, fun z h1 _ => g6.2 z h1 (Nat.not_le.mpr h1)⟩, g7, g8, fun z hz => Nat.le_trans hN0 (g9 z hz)⟩
/-- 'throw new E("text")' -/
theorem tx_new {cls text : String} {names : List String} {ik is ic sa mc ms : Nat} (htl : l.stackTraces = false) (hC : cx D cl tys NW Ts s.heap.size p s m args meth c cc nL ret own) (hB0 : bd D cl N0 s.heap.size ws s s.heap []) (hB : bd D cl N0 s.heap.size ws s H locs) (hcls : Bundle.fit cls = true) (hnames : ∀ n ∈ names, Bundle.fit n = true)
    (hat : ∀ w ∈ Bundle.ownAtoms own ic cls names, w.before args s = true) (hk : Cond.classLink own ik cls ∈ Ts) (hini : Cond.initialized cls ∈ Ts) (hstr : vk_R own is text sa s) (hsz : ls.size = nL)
    (d0 : decode cc pc = .ok (.new ik, 3)) (d3 : decode cc (pc + 3) = .ok (.dup, 1)) (d4 : decode cc (pc + 4) = .ok (.ldc_w is, 3)) (d7 : decode cc (pc + 7) = .ok (.invokespecial ic, 3)) (d10 : decode cc (pc + 10) = .ok (.athrow, 1)) (hex : c.exceptionTable.toList = [])
    (hRf : names.length + 3 < R.frames) (hRl : (rest.map fun v => v.category).sum + (13 * (names.length + 1) + 43) ≤ R.locals) (hc : cells + 1 ≤ R.cells) (hs : slots + 6 ≤ R.slots) (hc2 : cells + 1 ≤ mc) (hs2 : slots + 6 ≤ ms) :
    W p l e R s m args below meth c H locs cells slots (fun t => ∃ o, t.status = .running ∧ Ended t below o ∧ qT D cl N0 s.heap.size cls ws mc ms args s o t) (F0 m pc ls rest) := by
  refine va_forget (fun q hq => hB.2.2.2.2 q hq) ?_
  intro T hT X
  have htr : e.platform.stackTraces = false := (show e.platform.stackTraces = l.stackTraces by rw [X.admits.platform]).trans htl
  have hts := hC.2.2.2.2.2.1
  have hbc := hC.2.1
  obtain ⟨vm1, cX, kX, hfX, hkX, -, -, X1, st1⟩ := X.newCold hC.1 (own := own) (C := cls) (index := ik) (n := 6) hC.2.2.2.2.1 (hts _ hk) (hat _ (by simp [Bundle.ownAtoms])) (hts _ hini) (g := F0 m pc ls rest) rfl (by rw [hbc]; exact d0) hc hs
  have hcell : ((T.setVm vm1).pushCell { cls := cX, slots := kX.instanceTypes.map defaultValue, vm := .none }).heap[T.heap.size]? = some (freshCell cX kX) := State.heap_pushCell_size _ _
  generalize (T.setVm vm1).pushCell { cls := cX, slots := kX.instanceTypes.map defaultValue, vm := .none } = T1 at X1 st1 hcell
  have hcat : (Value.ref T.heap.size).category = 1 := rfl
  obtain ⟨U, hsteps, hrun, hend, hW, hsame, ce, hce, hO⟩ := X1.ctorThrowS hC.1 htr (own := own) (cls := cls) (names := names) (ic := ic) hC.2.2.2.2.1 hcls hnames hat (fun x hx => nomatch hx) hfX hkX hcell (by rw [hT]; exact hB.2.2.1) (msg := .ref sa) rfl
    (g := { method := m, pc := pc + 7, locals := ls, stack := .ref sa :: .ref T.heap.size :: .ref T.heap.size :: rest, locked := none }) rfl (hsz.trans hC.2.2.2.1.symm) rfl rfl (rest := rest) rfl (by rw [hbc]; exact d7) (by rw [hbc]; exact d10) (by rw [hex]; intro x hx; cases hx) hRf (by simp only [List.map_cons, List.sum_cons, hcat]; show 2 * 0 + _ + _ ≤ _; omega) hC.2.2.2.2.2.2.1
  have hold : ∀ q : Nat, q < s.heap.size → U.heap[q]? = s.heap[q]? := by
    intro q hq
    obtain ⟨c9, e1, e2, e3, e4⟩ := hsame.2.2.2.2.2 q _ (Array.getElem?_eq_getElem hq)
    have hsl : c9.slots = (s.heap[q]).slots := Array.ext_getElem? fun i => e4 i (fun hm => nomatch hm)
    have h9 : c9 = s.heap[q] := by rw [hsl] at e2; exact e2
    have e5 : U.heap[q]? = some c9 := e1
    rw [e5, h9, Array.getElem?_eq_getElem hq]
  refine ⟨U, ?_, .threw T.heap.size, hrun, hend, T.heap.size, ce, [], rfl, hce, hO.vm, hO.cls, ⟨hB0.1.kept (fun k z hz => hold z.1 (hB0.1 k z hz).lt), hB0.2.1⟩, ⟨hsame.2.1, fun z h1 _ => hold z h1⟩, hW, hsame.mono hc2 hs2, fun z hz => nomatch hz⟩
  refine st1 _ ?_
  have d3' : decode c.code (pc + 3) = .ok (.dup, 1) := by rw [hbc]; exact d3
  have d4' : decode c.code (pc + 4) = .ok (.ldc_w is, 3) := by rw [hbc]; exact d4
  show Steps p.tables e below (T1.setTop { method := m, pc := pc + 3, locals := ls, stack := .ref T.heap.size :: rest, locked := none }) _
  jvm_step X1.here [X1.here.top, hC.1, d3', Value.category]
  exact X1.ldcStringW hC.1 (own := own) (text := text) (index := is) (a := sa) hC.2.2.2.2.1 hstr.1 hstr.2 (g := { method := m, pc := pc + 4, locals := ls, stack := .ref T.heap.size :: .ref T.heap.size :: rest, locked := none }) rfl d4' _ hsteps
/-- the same, the text by a narrow index -/
theorem tx_newS {cls text : String} {names : List String} {ik is ic sa mc ms : Nat} (htl : l.stackTraces = false) (hC : cx D cl tys NW Ts s.heap.size p s m args meth c cc nL ret own) (hB0 : bd D cl N0 s.heap.size ws s s.heap []) (hB : bd D cl N0 s.heap.size ws s H locs) (hcls : Bundle.fit cls = true) (hnames : ∀ n ∈ names, Bundle.fit n = true)
    (hat : ∀ w ∈ Bundle.ownAtoms own ic cls names, w.before args s = true) (hk : Cond.classLink own ik cls ∈ Ts) (hini : Cond.initialized cls ∈ Ts) (hstr : vk_R own is text sa s) (hsz : ls.size = nL)
    (d0 : decode cc pc = .ok (.new ik, 3)) (d3 : decode cc (pc + 3) = .ok (.dup, 1)) (d4 : decode cc (pc + 4) = .ok (.ldc is, 2)) (d6 : decode cc (pc + 6) = .ok (.invokespecial ic, 3)) (d9 : decode cc (pc + 9) = .ok (.athrow, 1)) (hex : c.exceptionTable.toList = [])
    (hRf : names.length + 3 < R.frames) (hRl : (rest.map fun v => v.category).sum + (13 * (names.length + 1) + 43) ≤ R.locals) (hc : cells + 1 ≤ R.cells) (hs : slots + 6 ≤ R.slots) (hc2 : cells + 1 ≤ mc) (hs2 : slots + 6 ≤ ms) :
    W p l e R s m args below meth c H locs cells slots (fun t => ∃ o, t.status = .running ∧ Ended t below o ∧ qT D cl N0 s.heap.size cls ws mc ms args s o t) (F0 m pc ls rest) := by
  refine va_forget (fun q hq => hB.2.2.2.2 q hq) ?_
  intro T hT X
  have htr : e.platform.stackTraces = false := (show e.platform.stackTraces = l.stackTraces by rw [X.admits.platform]).trans htl
  have hts := hC.2.2.2.2.2.1
  have hbc := hC.2.1
  obtain ⟨vm1, cX, kX, hfX, hkX, -, -, X1, st1⟩ := X.newCold hC.1 (own := own) (C := cls) (index := ik) (n := 6) hC.2.2.2.2.1 (hts _ hk) (hat _ (by simp [Bundle.ownAtoms])) (hts _ hini) (g := F0 m pc ls rest) rfl (by rw [hbc]; exact d0) hc hs
  have hcell : ((T.setVm vm1).pushCell { cls := cX, slots := kX.instanceTypes.map defaultValue, vm := .none }).heap[T.heap.size]? = some (freshCell cX kX) := State.heap_pushCell_size _ _
  generalize (T.setVm vm1).pushCell { cls := cX, slots := kX.instanceTypes.map defaultValue, vm := .none } = T1 at X1 st1 hcell
  have hcat : (Value.ref T.heap.size).category = 1 := rfl
  obtain ⟨U, hsteps, hrun, hend, hW, hsame, ce, hce, hO⟩ := X1.ctorThrowS hC.1 htr (own := own) (cls := cls) (names := names) (ic := ic) hC.2.2.2.2.1 hcls hnames hat (fun x hx => nomatch hx) hfX hkX hcell (by rw [hT]; exact hB.2.2.1) (msg := .ref sa) rfl
    (g := { method := m, pc := pc + 6, locals := ls, stack := .ref sa :: .ref T.heap.size :: .ref T.heap.size :: rest, locked := none }) rfl (hsz.trans hC.2.2.2.1.symm) rfl rfl (rest := rest) rfl (by rw [hbc]; exact d6) (by rw [hbc]; exact d9) (by rw [hex]; intro x hx; cases hx) hRf (by simp only [List.map_cons, List.sum_cons, hcat]; show 2 * 0 + _ + _ ≤ _; omega) hC.2.2.2.2.2.2.1
  have hold : ∀ q : Nat, q < s.heap.size → U.heap[q]? = s.heap[q]? := by
    intro q hq
    obtain ⟨c9, e1, e2, e3, e4⟩ := hsame.2.2.2.2.2 q _ (Array.getElem?_eq_getElem hq)
    have hsl : c9.slots = (s.heap[q]).slots := Array.ext_getElem? fun i => e4 i (fun hm => nomatch hm)
    have h9 : c9 = s.heap[q] := by rw [hsl] at e2; exact e2
    have e5 : U.heap[q]? = some c9 := e1
    rw [e5, h9, Array.getElem?_eq_getElem hq]
  refine ⟨U, ?_, .threw T.heap.size, hrun, hend, T.heap.size, ce, [], rfl, hce, hO.vm, hO.cls, ⟨hB0.1.kept (fun k z hz => hold z.1 (hB0.1 k z hz).lt), hB0.2.1⟩, ⟨hsame.2.1, fun z h1 _ => hold z h1⟩, hW, hsame.mono hc2 hs2, fun z hz => nomatch hz⟩
  refine st1 _ ?_
  have d3' : decode c.code (pc + 3) = .ok (.dup, 1) := by rw [hbc]; exact d3
  have d4' : decode c.code (pc + 4) = .ok (.ldc is, 2) := by rw [hbc]; exact d4
  show Steps p.tables e below (T1.setTop { method := m, pc := pc + 3, locals := ls, stack := .ref T.heap.size :: rest, locked := none }) _
  jvm_step X1.here [X1.here.top, hC.1, d3', Value.category]
  exact X1.ldcString hC.1 (own := own) (text := text) (index := is) (a := sa) hC.2.2.2.2.1 hstr.1 hstr.2 (g := { method := m, pc := pc + 4, locals := ls, stack := .ref T.heap.size :: .ref T.heap.size :: rest, locked := none }) rfl d4' _ hsteps
end TH
/-- the words of a throw: the tables', and the four on the heap -/
def goodB (w : Cond) : Bool := goodWord w
theorem ownIO (ic : Nat) (cls : String) {args : Array Value} {s : State} (hts : ∀ w ∈ ALLW, w.before args s = true) (hSW : SW s) (h : (Bundle.ownAtoms "SheetTrees" ic cls ["java/lang/RuntimeException", "java/lang/Exception"]).all (fun w => decide (w ∈ ALLW) || decide (w ∈ SWl) || decide (w ∈ SWn)) = true) : ∀ w ∈ Bundle.ownAtoms "SheetTrees" ic cls ["java/lang/RuntimeException", "java/lang/Exception"], w.before args s = true := by
  intro w hw
  have h1 := List.all_eq_true.mp h w hw
  simp only [Bool.or_eq_true, decide_eq_true_eq] at h1
  rcases h1 with (h1 | h1) | h1
  · exact hts w h1
  · have h2 := hSW.1 w h1
    simp only [SWl, List.mem_cons, List.not_mem_nil, or_false] at h1
    rcases h1 with rfl | rfl | rfl | rfl <;> exact h2
  · have h2 := hSW.2.2 w h1
    simp only [SWn, List.mem_cons, List.not_mem_nil, or_false] at h1
    rcases h1 with rfl | rfl | rfl | rfl | rfl <;> exact va_Nw.use rfl h2
theorem own_IOB : (Bundle.ownAtoms "SheetTrees" 220 "java/lang/IndexOutOfBoundsException" ["java/lang/RuntimeException", "java/lang/Exception"]).all (fun w => decide (w ∈ ALLW) || decide (w ∈ SWl) || decide (w ∈ SWn)) = true := by decide +kernel
theorem own_IAE : (Bundle.ownAtoms "SheetTrees" 135 "java/lang/IllegalArgumentException" ["java/lang/RuntimeException", "java/lang/Exception"]).all (fun w => decide (w ∈ ALLW) || decide (w ∈ SWl) || decide (w ∈ SWn)) = true := by decide +kernel
theorem nn_some {α : Type} (x : α) : some x ≠ none := fun h => by cases h
theorem nn_ite {α : Type} {c : Prop} [Decidable c] {a b : Option α} (ha : a ≠ none) (hb : b ≠ none) : (if c then a else b) ≠ none := by
  by_cases h : c
  · rw [if_pos h]; exact ha
  · rw [if_neg h]; exact hb
theorem rj_zn {π : PJ} {σ : SC} (h : RJ π σ) (k : Nat) (v : Int32) : RJ π (zn σ k v) := h
