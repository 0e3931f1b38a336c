/-! A METHOD WITH A HANDLER: its contract out of a walk, its catch, a call of it -/
section CW
variable {p : Program} {l : Launch} {e : Env} {R : Room} {s : State} {m : MethodId} {args : Array Value} {below : List Frame} {meth : Method} {c : Code} {H : Heap} {locs : List Loc} {cells slots : Nat} {Q : State → Prop}
variable {cc : ByteArray} {pc nL : Nat} {ls : Array Slot} {rest st0 : List Value} {D : va_G} {cl : List vw_C} {tys : List (ClassId × FieldType)} {NW Ts : List Cond} {N0 N1 N2 : Nat} {ws : va_W} {PW : va_W → Prop} {ret : Option FieldType} {own : String}
theorem bd_w (h : bd D cl N0 N1 ws s H locs) (hn : N0 ≤ N1) : bd D cl N0 N0 ws s H locs :=
  ⟨h.1, h.2.1, h.2.2.1, fun q h1 h2 => h.2.2.2.1 q h1 (fun z => h2 (Nat.le_trans hn z)), fun q hq => Nat.le_trans hn (h.2.2.2.2 q hq)⟩
theorem cx_to (hC : cx D cl tys NW Ts N1 p s m args meth c cc nL ret own) (h : N2 ≤ s.heap.size) : cx D cl tys NW Ts N2 p s m args meth c cc nL ret own :=
  ⟨hC.1, hC.2.1, hC.2.2.1, hC.2.2.2.1, hC.2.2.2.2.1, hC.2.2.2.2.2.1, hC.2.2.2.2.2.2.1, hC.2.2.2.2.2.2.2.1, h, hC.2.2.2.2.2.2.2.2.2⟩
theorem bd_s (hC : cx D cl tys NW Ts N0 p s m args meth c cc nL ret own) (h : bd D cl N0 N0 ws s s.heap []) : bd D cl N0 s.heap.size ws s s.heap [] :=
  ⟨h.1, h.2.1, va_S.rf⟩
theorem asg_self (vm : Vm) (k : ClassId) : vm.assignable k k = true := by
  show vm.assignableAux (255 + 1) k k = true
  rw [Vm.assignableAux]
  simp only [beq_self_eq_true, Bool.true_or]
theorem met_w {y : MethodName} {rm : Room} {av : List Value} {v : Option Value} {maxL : Nat} {mc ms : Nat} {hh : List (Nat × Nat × Nat × Nat)} (hy : plainName y.cls = true) (hyc : y.cls = own) (hN : ∀ w ∈ NW, nwOk w = true)
    (body : ∀ (p : Program) (e : Env) (s : State) (m : MethodId) (below : List Frame) (meth : Method) (c : Code), cx D cl tys NW Ts N0 p s m av.toArray meth c cc maxL ret own → SW s → c.exceptionTable.toList.map (fun h => (h.startPc, h.endPc, h.handlerPc, h.catchType)) = hh → bd D cl N0 N0 ws s s.heap [] →
      W p l e rm s m av.toArray below meth c s.heap [] 0 0 (MQ below (qx D cl N0 N0 v PW) av.toArray s mc ms (ga N0)) (entryFrame m av.toArray maxL)) :
    Met l y (Cond.codeWith y cc maxL ret hh :: Ts) rm (pX D cl tys NW N0 N0 av ws) (qx D cl N0 N0 v PW) mc ms (ga N0) := by
  refine va_MetW (hh := hh) hy rfl ?_
  intro p e s m args below meth c s₁ B hml hv
  obtain ⟨⟨rfl, hN0, hK, hP, hD⟩, hSW⟩ := hv
  have hts := atoms_spec (ws := Cond.codeWith y cc maxL ret hh :: Ts) B.pre
  have hown : s.vm.findClass own = some m.cls := by rw [← hyc]; exact findClass_of_methodNamed B.named
  obtain ⟨m9, meth9, c9, q1, q2, q3, q4, q5, q6, -⟩ := Cond.codeWith_spec (hts _ List.mem_cons_self)
  cases B.named.symm.trans q1
  cases B.method.symm.trans q2
  have hc9 : c9 = c := by
    have h1 := (Stand.of_body B).code
    exact Option.some.inj (q3.symm.trans h1)
  subst hc9
  exact body p e s m below meth c9 ⟨B.exec, B.bytes, B.returns, hml, hown, fun w h => hts w (List.mem_cons_of_mem _ h), B.notSynchronized, hK, hN0, hN⟩ hSW q6 ⟨hP, hD, va_S.rf⟩
/-- caught -/
theorem cth {En : String} {a b hpc ct : Nat} {q : Addr} {ce : Cell} (hC : cx D cl tys NW Ts N1 p s m args meth c cc nL ret own) (htab : c.exceptionTable.toList.map (fun h => (h.startPc, h.endPc, h.handlerPc, h.catchType)) = [(a, b, hpc, ct)]) (hcov : a ≤ pc ∧ pc < b) (h0 : ct ≠ 0)
    (hl : Cond.classLink own ct En ∈ Ts) (hce : H[q]? = some ce) (hv : ce.vm = .none) (hf : s.vm.findClass En = some ce.cls)
    (hk : W p l e R s m args below meth c H locs cells slots Q (F0 m hpc ls [.ref q])) : WX p l e R s m args below meth c H locs cells slots Q (F0 m pc ls rest) q := by
  obtain ⟨x, hx, hxs⟩ : ∃ x, c.exceptionTable.toList = [x] ∧ (x.startPc, x.endPc, x.handlerPc, x.catchType) = (a, b, hpc, ct) := by
    cases hT : c.exceptionTable.toList with
    | nil => rw [hT] at htab; cases htab
    | cons x t =>
      rw [hT] at htab
      cases t with
      | nil => exact ⟨x, rfl, (List.cons.inj htab).1⟩
      | cons y t => cases (List.cons.inj htab).2
  cases hxs
  intro T hT X
  obtain ⟨vm', XV, st⟩ := X.caughtLink q (g := F0 m pc ls rest) rfl hC.2.2.2.2.1 [] x [] hx (fun y hy => by cases hy) (by simp [covers, hcov.1, hcov.2]) h0 (hC.2.2.2.2.2.1 _ hl) hf (by rw [hT]; exact hce) (by rw [hv]; rfl) (asg_self _ _)
  obtain ⟨t, a1, b1⟩ := hk (T.setVm vm') hT XV
  refine ⟨t, ?_, b1⟩
  rw [X.pushThrowing_eq]
  exact st t a1
theorem px_ok {av : List Value} (hC : cx D cl tys NW Ts N0 p s m args meth c cc nL ret own) (hSW : SW s) (h0 : s.heap.size ≤ N0) (hB : bd D cl N0 N0 ws s H locs) : FrameBlind (pX D cl tys NW N0 N0 av ws) ∧ ∀ U : State, U.heap = H → s.WarmedH U.vm → pX D cl tys NW N0 N0 av ws av.toArray U := by
  have hP := pcx_ok (av := av) hC hB
  refine ⟨fun a U g mk q => ⟨hP.1 a U g mk q.1, sw_to (s := U) (U := U.calling g mk a) (State.WarmedH.refl U) (fun _ _ => rfl) q.2⟩, fun U hU hW => ⟨hP.2 U hU hW, sw_to hW (fun q hq => ?_) hSW⟩⟩
  rw [hU]
  exact hB.2.2.2.1 q hq (Nat.not_le.mpr (Nat.lt_of_lt_of_le hq h0))
/-- a call of a static method that has a handler -/
theorem kSW {index n maxL mc ms : Nat} {As : List Value} {y : MethodName} {bytes : ByteArray} {rt : Option FieldType} {rm : Room} {v : Option Value} {hh : List (Nat × Nat × Nat × Nat)} (hC : cx D cl tys NW Ts N0 p s m args meth c cc nL ret own) (hSW : SW s) (h0 : s.heap.size ≤ N0) (hB : bd D cl N0 N0 ws s H locs)
    (hM : Met l y (Cond.codeWith y bytes maxL rt hh :: Ts) rm (pX D cl tys NW N0 N0 As ws) (qx D cl N0 N0 v PW) mc ms (ga N0)) (hT : ∀ w ∈ Ts, goodWord w = true) (f1 : Cond.codeWith y bytes maxL rt hh ∈ Ts) (f2 : Cond.initialized y.cls ∈ Ts) (f4 : y.cls ≠ "java/lang/invoke/MethodHandle" ∧ y.cls ≠ "java/lang/invoke/VarHandle") (f6 : (parseMethodDescriptor y.desc).map (fun d => d.parameters.length) = some n) (hi : Cond.static y ∈ Ts) (hl : Cond.methodLink own index y ∈ Ts)
    (hrm : rm.cells = mc ∧ rm.slots = ms ∧ rm.frames + 1 ≤ R.frames ∧ 8 + (maxL + 11) + rm.locals ≤ R.locals) (hst : st0 = As.reverse ++ rest) (hn : As.length = n) (hsz : ls.size = nL) (hw8 : (rest.map fun v => v.category).sum ≤ 8) (hdg : decode cc pc = .ok (.invokestatic index, 3)) (hf : cells + mc ≤ R.cells ∧ slots + ms ≤ R.slots)
    (kk : ∀ (H1 : Heap) (locs1 : List Loc) (ws1 : va_W), PW ws1 → bd D cl N0 N0 ws1 s H1 locs1 → W p l e R s m args below meth c H1 locs1 (cells + mc) (slots + ms) Q (F0 m (pc + 3) ls (v.toList ++ rest))) : W p l e R s m args below meth c H locs cells slots Q (F0 m pc ls st0) := by
  obtain ⟨r1, r2, r3, r4⟩ := hrm
  have hP := px_ok (av := As) hC hSW h0 hB
  have hts := hC.2.2.2.2.2.1
  refine kc (a := As.toArray) hB ?_ kk
  have hini : ∀ (a' : Array Value) (U' : State), s.WarmedH U'.vm → (Cond.initialized y.cls).before a' U' = true := fun a' U' hW => word_at hW (good_of_word (hT _ f2)) (hts _ f2)
  have hK : Back l R p e below s args y 3 8 (PreOf R mc ms (pX D cl tys NW N0 N0 As ws)) (PostOf (qx D cl N0 N0 v PW) mc ms (ga N0)) :=
    va_backW (hh := hh) (bytes := bytes) (maxL := maxL) (ret := rt) hM hP.1 r1 r2 r3 r4 (pay_in hts (good_all hT f1)) List.mem_cons_self hini
  intro T hTH X
  obtain ⟨mk, methM, cM, hnamed, hmethM, -, -, -, -, -, -, hsigM⟩ := Cond.codeWith_spec (hts _ f1)
  have hstatic : methM.isStatic = true := Cond.static_spec hnamed hmethM (hts _ hi)
  obtain ⟨kP, hkP, -⟩ := className_of_methodNamed hnamed
  have hinitP : kP.init = .initialized := Cond.initialized_spec (findClass_of_methodNamed hnamed) hkP (hts _ f2)
  have hlen : As.length = methM.sig.parameters.length := by
    rw [hsigM] at f6
    exact hn.trans (Option.some.inj f6).symm
  have hdc : decode c.code pc = .ok (.invokestatic index, 3) := by rw [hC.2.1]; exact hdg
  obtain ⟨vm1, X1, hstep1⟩ := X.invokestatic hC.1 hC.2.2.2.2.1 (hts _ hl) hnamed hmethM hstatic hkP hinitP f4 (g := F0 m pc ls st0) rfl (argsL := As) (rest := rest) hlen hst hdc
  obtain ⟨w, ⟨U', l2, c2, s2⟩, X', ⟨g', mk', t, L, e1, e2, hq, h1, hL, h2, h3⟩, hsteps⟩ := hK m meth c ⟨T.setVm vm1, locs, cells, slots⟩ (F0 m pc ls rest) (.invokestatic index) mk As.toArray X1 rfl (hsz.trans hC.2.2.2.1.symm) hdc (lv_room hw8) (X1.named hnamed) ⟨hf.1, hf.2, hP.2 (T.setVm vm1) hTH X1.warmed⟩
  dsimp only [Pt.U, Pt.locs, Pt.cells, Pt.slots] at X' e1 e2 h1 h2 h3 hsteps
  subst h1; subst h2; subst h3
  exact ⟨w, (T.setVm vm1).calling g' mk' As.toArray, t, U', L, hTH, X', hL, e1, e2, hq, fun target h => hstep1 _ fun acts => by rw [doInvoke_state]; exact hsteps.trans h⟩
end CW
