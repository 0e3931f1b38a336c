/-! METHODS THAT THROW: which of the two a call does is known beforehand, so a throwing call has a contract of its own -/
def qT (D : va_G) (cl : List vw_C) (N0 : Nat) (En : String) (ws : va_W) (mc ms : Nat) : Array Value → State → Outcome → State → Prop := fun _ st o t =>
  ∃ (q : Addr) (ce : Cell) (L : List Loc), o = .threw q ∧ t.heap[q]? = some ce ∧ ce.vm = .none ∧ st.vm.findClass En = some ce.cls ∧ wd D cl N0 ws t ∧ va_F (ga N0) st t ∧ st.WarmedH t.vm ∧ st.sameButNew ({ t with vm := st.vm } : State) L mc ms ∧ ∀ z ∈ L, ga N0 z.base
def MX (l : Launch) (y : MethodName) (bytes : ByteArray) (maxL : Nat) (rt : Option FieldType) (rm : Room) (D : va_G) (cl : List vw_C) (tys : List (ClassId × FieldType)) (NW Ts : List Cond) (N0 : Nat) (av : List Value) (ws : va_W) (En : String) (mc ms : Nat) : Prop :=
  MetFree l y (headSpec (Cond.code y bytes maxL rt :: Ts) rm) (pcx D cl tys NW N0 av ws) (fun _ _ _ _ _ => True) (qT D cl N0 En ws mc ms)
section TH
variable {p : Program} {l : Launch} {e : Env} {R : Room} {s : State} {m : MethodId} {args : Array Value} {below : List Frame} {meth : Method} {c : Code} {H : Heap} {locs : List Loc} {cells slots : Nat} {Q : State → Prop}
variable {cc : ByteArray} {pc nL : Nat} {ls : Array Slot} {rest st0 : List Value} {D : va_G} {cl : List vw_C} {tys : List (ClassId × FieldType)} {NW Ts : List Cond} {N0 : Nat} {ws ws' : va_W} {PW : va_W → Prop} {ret : Option FieldType} {own : String}
/-- the frame g, with q thrown over it -/
def WX (p : Program) (l : Launch) (e : Env) (R : Room) (s : State) (m : MethodId) (args : Array Value) (below : List Frame) (meth : Method) (c : Code) (H : Heap) (locs : List Loc) (cells slots : Nat) (Q : State → Prop) (g : JFrame) (q : Addr) : Prop :=
  ∀ T : State, T.heap = H → Stand p l e R s m args below meth c T locs cells slots → ∃ t, Steps p.tables e below ((T.setTop g).pushFrame (.throwing q)) t ∧ Q t
/-- the callee's end, in the caller's words -/
theorem tx_back {U : State} (X : Stand p l e R s m args below meth c U locs cells slots) {g : JFrame} (hg : g.method = m) (hsize : g.locals.size = c.maxLocals) {ig : Instr} {len : Nat} (hdg : decode c.code g.pc = .ok (ig, len)) (hw8 : 2 * g.monitorRoom + (g.stack.map fun v => v.category).sum ≤ 8)
    {y : MethodName} {bytes : ByteArray} {maxL mc ms : Nat} {rt : Option FieldType} {rm : Room} {av : List Value} {En : String} (hM : MX l y bytes maxL rt rm D cl tys NW Ts N0 av ws En mc ms) {mk : MethodId} (hn : U.methodNamed? y = some mk)
    (hws : ∀ w ∈ Cond.code y bytes maxL rt :: Ts, ∀ (a' : Array Value) (U' : State), s.WarmedH U'.vm → w.before a' U' = true) (hini : ∀ (a' : Array Value) (U' : State), s.WarmedH U'.vm → (Cond.initialized y.cls).before a' U' = true)
    (hrm : rm.cells = mc ∧ rm.slots = ms ∧ rm.frames + 1 ≤ R.frames ∧ 8 + (maxL + 11) + rm.locals ≤ R.locals) (hf : cells + mc ≤ R.cells ∧ slots + ms ≤ R.slots) (hP : pcx D cl tys NW N0 av ws av.toArray (U.calling g mk av.toArray)) :
    ∃ (q : Addr) (ce : Cell) (T' : State) (L : List Loc), Stand p l e R s m args below meth c T' (locs ++ L) (cells + mc) (slots + ms) ∧ T'.heap[q]? = some ce ∧ ce.vm = .none ∧ U.vm.findClass En = some ce.cls ∧ wd D cl N0 ws T' ∧ va_F (ga N0) U T' ∧ (∀ z ∈ L, ga N0 z.base) ∧
      Steps p.tables e below (doInvoke e (U.setTop g) [] mk av.toArray).1 ((T'.setTop g).pushFrame (.throwing q)) := by
  obtain ⟨r1, r2, r3, r4⟩ := hrm
  have hcode := hws _ List.mem_cons_self av.toArray U X.warmed
  obtain ⟨methY, cY, hmY, hcY, -, hlY, -, -, -, -⟩ := Cond.code_spec hn hcode
  obtain ⟨kY, hkY, -⟩ := className_of_methodNamed hn
  have hinY : kY.init = .initialized := Cond.initialized_spec (findClass_of_methodNamed hn) hkY (hini av.toArray U X.warmed)
  have h : At U g.method c below := by rw [hg]; exact X.here
  have happ : (headSpec (Cond.code y bytes maxL rt :: Ts) rm).appliesLoose y e.platform (U.calling g mk av.toArray) = true :=
    Spec.appliesLoose_calling (g := g) h hdg hn hkY hinY (X.room_calling (g := g) (R' := (headSpec (Cond.code y bytes maxL rt :: Ts) rm).room) hsize hmY hcY r3 (by rw [hlY]; show _ + _ + rm.locals ≤ _; omega) (by show cells + rm.cells ≤ _; omega) (by show slots + rm.slots ≤ _; omega)) (atoms_intro fun w hw => hws w hw _ _ X.warmed)
  obtain ⟨mid, hmid⟩ := h.above
  have hfr : (U.setTop g).frames = (.java g :: mid) ++ below := by rw [State.frames_setTop' g h.top, hmid]; rfl
  obtain ⟨o, s2, hsteps, -, hend, hq⟩ := Steps.callFree hM p X.admits X.cas X.clock (acts := []) hfr happ hP trivial
  have hq' : qT D cl N0 En ws mc ms av.toArray (U.calling g mk av.toArray) o s2 := hq
  obtain ⟨q, ce, L, rfl, h1, h2, h3, h4, h5, hW, hsm, hL⟩ := hq'
  obtain ⟨e2, q2, q3, q4, q5, q6⟩ := hsm
  have e3 : s2 = ({ (U.calling g mk av.toArray).setFrames s2.frames with heap := s2.heap, slotsUsed := s2.slotsUsed } : State).setVm s2.vm := by
    have : s2 = ({ s2 with vm := (U.calling g mk av.toArray).vm } : State).setVm s2.vm := rfl
    rw [e2] at this
    exact this
  have hW' : U.WarmedH s2.vm := hW
  have hend' : s2.frames = .throwing q :: (U.setTop g).frames := hend
  obtain ⟨g0, hg0⟩ := Option.isSome_iff_exists.mp h.top
  obtain ⟨r, hr⟩ := State.topJava?_eq_some.mp hg0
  have hsame : U.sameButNew ({ U with heap := s2.heap, slotsUsed := s2.slotsUsed } : State) L mc ms := by
    refine ⟨?_, q2, q3, q4, q5, q6⟩
    obtain ⟨t, ht, -⟩ := State.frames_cons hr
    show ({ U with heap := s2.heap, slotsUsed := s2.slotsUsed } : State) = { U.setFrames U.frames with heap := s2.heap, slotsUsed := s2.slotsUsed }
    rw [State.setFrames_self ht]
  have hs2 : s2 = ((({ U with heap := s2.heap, slotsUsed := s2.slotsUsed } : State).setVm s2.vm).setTop g).pushFrame (.throwing q) := by
    have hr' : (({ U with heap := s2.heap, slotsUsed := s2.slotsUsed } : State).setVm s2.vm).frames = .java g0 :: r := hr
    refine e3.trans ?_
    rw [hend', State.calling_eq h.top, State.setFrames_setFrames, State.frames_setTop' g h.top, State.setTop_of_frames _ hr', hr]
    unfold State.pushFrame
    rw [State.setFrames_setFrames, State.frames_setFrames _ (State.cur_lt_of_frames hr')]
    rfl
  subst hg
  refine ⟨q, ce, (({ U with heap := s2.heap, slotsUsed := s2.slotsUsed } : State).setVm s2.vm), L, ⟨X.admits, X.cas, X.clock, X.frames, X.room, X.hears, X.method, X.code, (X.here.setHeapUsed s2.heap s2.slotsUsed).setVm hW'.alike, X.tail, State.WarmedH.trans X.warmed hW', X.limits, X.bytes, X.same.trans (hsame.setVm s.vm)⟩, h1, h2, h3, h4, h5, hL, ?_⟩
  rw [← hs2]
  exact hsteps
/-- a call of an object's method that throws -/
theorem kx {C : String} {T0 : u_T} {N ci index n maxL mc ms b : Nat} {fs As : List Value} {y : MethodName} {bytes : ByteArray} {rt : Option FieldType} {rm : Room} {En : String} (hC : cx D cl tys NW Ts N0 p s m args meth c cc nL ret own) (hB : bd D cl N0 ws s H locs) (q0 : Nat) (he : ws[q0]? = some (b, .inr (ci, fs))) (hc : cl[ci]? = some (C, T0, N))
    (hM : MX l y bytes maxL rt rm D cl tys NW Ts N0 (.ref b :: As) ws En mc ms) (hT : ∀ w ∈ Ts, goodWord w = true) (hF : mf Ts C y bytes maxL rt n) (hi : Cond.instanceMethod y ∈ Ts) (hs : Cond.selects C y y ∈ Ts) (hl : Cond.methodLink own index y ∈ Ts)
    (hrm : rm.cells = mc ∧ rm.slots = ms ∧ rm.frames + 1 ≤ R.frames ∧ 8 + (maxL + 11) + rm.locals ≤ R.locals) (hst : st0 = As.reverse ++ .ref b :: rest) (hn : As.length = n) (hsz : ls.size = nL) (hw8 : (rest.map fun v => v.category).sum ≤ 8) (hdg : decode cc pc = .ok (.invokevirtual index, 3)) (hf : cells + mc ≤ R.cells ∧ slots + ms ≤ R.slots)
    (kk : ∀ (q : Addr) (ce : Cell) (H1 : Heap) (locs1 : List Loc), bd D cl N0 ws s H1 locs1 → H1[q]? = some ce → ce.vm = .none → s.vm.findClass En = some ce.cls → WX p l e R s m args below meth c H1 locs1 (cells + mc) (slots + ms) Q (F0 m pc ls rest) q) : W p l e R s m args below meth c H locs cells slots Q (F0 m pc ls st0) := by
  obtain ⟨f1, f2, f3, f4, f5, f6⟩ := hF
  subst f3
  obtain ⟨cellB, hcB, hoB, hclB⟩ := va_recv hC.2.2.2.2.2.2.2.1.1 hB.1 hc he
  have hts := hC.2.2.2.2.2.1
  have hP := pcx_ok (av := .ref b :: As) hC hB
  intro T hTH X
  obtain ⟨mk, methM, hnamed, hmethM, hstM, habM⟩ := Cond.instanceMethod_spec (hts _ hi)
  obtain ⟨methM', cM, hmethM', -, -, -, -, -, -, hsigM⟩ := Cond.code_spec hnamed (hts _ f1)
  cases hmethM.symm.trans hmethM'
  obtain ⟨c2, r2, m2, q1, q2, q3, q4, kP, hkP, hkPi⟩ := Cond.selects_spec (hts _ hs)
  cases hclB.symm.trans q1
  cases (State.methodFound?_of_named hnamed ⟨f4, f5⟩).symm.trans q2
  cases hnamed.symm.trans q3
  have hselP : selectMethod e.platform s.vm cellB.cls mk = .method mk := by rw [Launch.admits_selectMethod X.admits]; exact q4
  have hlen : As.length = methM.sig.parameters.length := by
    rw [hsigM] at f6
    exact hn.trans (Option.some.inj f6).symm
  have hdc : decode c.code pc = .ok (.invokevirtual index, 3) := by rw [hC.2.1]; exact hdg
  obtain ⟨vm1, X1, hstep1⟩ := X.invokevirtual hC.1 hC.2.2.2.2.1 (hts _ hl) hnamed hmethM hstM hkP hkPi ⟨f4, f5⟩ (a := b) (cell := cellB) (by rw [hTH]; exact hcB)
    (fun z h => by rw [h] at hoB; cases hoB) hselP hmethM habM hkP hkPi (g := F0 m pc ls st0) rfl (argsL := As) (rest := rest) hlen hst hdc
  have hGW : ∀ w ∈ Cond.code y bytes maxL rt :: Ts, ∀ (a' : Array Value) (U' : State), s.WarmedH U'.vm → w.before a' U' = true := pay_in hts (good_all hT f1)
  have hini : ∀ (a' : Array Value) (U' : State), s.WarmedH U'.vm → (Cond.initialized y.cls).before a' U' = true := fun a' U' hW => word_at hW (good_of_word (hT _ f2)) (hts _ f2)
  have hpre : pcx D cl tys NW N0 (.ref b :: As) ws (Value.ref b :: As).toArray ((T.setVm vm1).calling (F0 m pc ls rest) mk (Value.ref b :: As).toArray) := hP.1 _ _ _ _ (hP.2 (T.setVm vm1) hTH X1.warmed)
  obtain ⟨q, ce, T', L, X2, g1, g2, g3, g4, g5, g6, hsteps⟩ := tx_back X1 (g := F0 m pc ls rest) rfl (hsz.trans hC.2.2.2.1.symm) hdc (lv_room hw8) hM (X1.named hnamed) hGW hini hrm hf hpre
  obtain ⟨hz, hk⟩ := g5
  have hz' : H.size ≤ T'.heap.size := by rw [← hTH]; exact hz
  have hk' : ∀ z : Nat, z < H.size → ¬ ga N0 z → T'.heap[z]? = H[z]? := fun z h1 h2 => by
    have := hk z (by rw [← hTH] at h1; exact h1) h2
    rw [this, ← hTH]
    rfl
  obtain ⟨t2, a1, b1⟩ := kk q ce T'.heap (locs ++ L) ⟨g4.1, g4.2, Nat.le_trans hB.2.2.1 hz', fun z h1 h2 => by rw [hk' z (Nat.lt_of_lt_of_le h1 hB.2.2.1) h2]; exact hB.2.2.2.1 z h1 h2, fun z hq => by
      rcases List.mem_append.mp hq with h | h
      · exact hB.2.2.2.2 z h
      · exact g6 z h⟩ g1 g2 (by rw [← X1.warmed.alike.findClass]; exact g3) T' rfl X2
  exact ⟨t2, hstep1 _ fun acts => by rw [doInvoke_state]; exact hsteps.trans a1, b1⟩
/-- it goes on to this method's own caller -/
theorem tx_out {En : String} {ce : Cell} {q : Addr} {mc ms : Nat} (hC : cx D cl tys NW Ts N0 p s m args meth c cc nL ret own) (hB : bd D cl N0 ws s H locs) (hout : ∀ x ∈ c.exceptionTable.toList, covers x pc = false) (hce : H[q]? = some ce) (hv : ce.vm = .none) (hcl : s.vm.findClass En = some ce.cls) (h1 : cells ≤ mc) (h2 : slots ≤ ms) :
    WX p l e R s m args below meth c H locs cells slots (fun t => ∃ o, t.status = .running ∧ Ended t below o ∧ qT D cl N0 En ws mc ms args s o t) (F0 m pc ls rest) q := by
  intro T hT X
  obtain ⟨st1, hrun, hend, hW, hsm⟩ := X.leaveThrown q (g := F0 m pc ls rest) rfl rfl rfl hout hC.2.2.2.2.2.2.1
  have hh : (T.setFrames (.throwing q :: below)).heap = H := hT
  exact ⟨_, st1, .threw q, hrun, hend, q, ce, locs, rfl, by rw [hh]; exact hce, hv, hcl, ⟨by rw [hh]; exact hB.1, hB.2.1⟩, hB.2.2.F hh, hW, hsm.mono h1 h2, hB.2.2.2.2⟩
/-- a throwing contract out of its walk -/
theorem mx_of {y : MethodName} {rm : Room} {av : List Value} {maxL : Nat} {mc ms : Nat} {En : String} (hy : plainName y.cls = true) (hyc : y.cls = own) (hN : ∀ w ∈ NW, nwOk w = true)
    (body : ∀ (p : Program) (e : Env) (s : State) (m : MethodId) (below : List Frame) (meth : Method) (c : Code), cx D cl tys NW Ts N0 p s m av.toArray meth c cc maxL ret own → c.exceptionTable.toList = [] → bd D cl N0 ws s s.heap [] →
      W p l e rm s m av.toArray below meth c s.heap [] 0 0 (fun t => ∃ o, t.status = .running ∧ Ended t below o ∧ qT D cl N0 En ws mc ms av.toArray s o t) (entryFrame m av.toArray maxL)) :
    MX l y cc maxL ret rm D cl tys NW Ts N0 av ws En mc ms := by
  refine MetFree.of_bodyS (code := cc) (maxLocals := maxL) (ret := ret) hy ?_ ?_
  · intro args s m h hn
    obtain ⟨meth, c, h1, h2, h3, h4, h5, h6, -, -⟩ := Cond.code_spec hn (atoms_spec (ws := Cond.code y cc maxL ret :: Ts) h _ List.mem_cons_self)
    exact ⟨meth, c, h1, h2, h3, h4, h5, h6⟩
  · intro p e s m args below meth c s1 B hml hv _
    obtain ⟨rfl, hN0, hK, hP, hD⟩ := hv
    have hts := atoms_spec (ws := Cond.code y cc maxL ret :: Ts) B.pre
    have hown : s.vm.findClass own = some m.cls := by rw [← hyc]; exact findClass_of_methodNamed B.named
    have hh0 : s1.heap = s.heap := by rw [B.state]; rfl
    have hex : c.exceptionTable.toList = [] := by
      have h9 := BodyLoose.noHandlers B (hts _ List.mem_cons_self)
      simpa using h9
    obtain ⟨t, a1, o, b1, b2, b3⟩ := body p e s m below meth c ⟨B.exec, B.bytes, B.returns, hml, hown, fun w h => hts w (List.mem_cons_of_mem _ h), B.notSynchronized, hK, hN0, hN⟩ hex ⟨hP, hD, va_S.rf⟩ s1 hh0 (Stand.of_body B)
    exact ⟨t, o, a1, b1, b2, b3⟩
end TH
