/-! THE FRAME OF THE CONTRACTS. One world for all methods of a side: a list of cells that is a function of an abstract value. A contract: from the world 'ws' the method ends with the value 'v' and the world 'ws2'; nothing below the address N0 changes. -/
def ga (N0 : Nat) : Nat → Prop := fun q => N0 ≤ q
def bi (b : Bool) : Int32 := if b then 1 else 0
theorem bi_z (b : Bool) : narrow .boolean (.int (bi b)) = .int (bi b) := by cases b <;> rfl
/-- what is known of the tables at a state: classes and array classes, private members of nest mates -/
def kn (D : va_G) (cl : List vw_C) (tys : List (ClassId × FieldType)) (NW : List Cond) (U : State) : Prop := va_K D cl tys U ∧ ∀ w ∈ NW, va_Nw w U
/-- the words on nest mates that a contract may ask -/
def nwOk : Cond → Bool
  | .fieldLinkNest .. => true
  | .methodLinkNest .. => true
  | _ => false
theorem nw_warm {w : Cond} {s U : State} (hw : nwOk w = true) (hW : s.WarmedH U.vm) (h : va_Nw w s) : va_Nw w U := by
  cases w <;> first | (simp [nwOk] at hw; done) | exact va_Nw.warmF hW h | exact va_Nw.warmM hW h
theorem nw_same {w : Cond} {u U : State} (hw : nwOk w = true) (hv : u.vm = U.vm) (h : va_Nw w u) : va_Nw w U := by
  cases w <;> first | (simp [nwOk] at hw; done) | exact va_Nw.same rfl hv h
theorem kn_warm {D : va_G} {cl : List vw_C} {tys : List (ClassId × FieldType)} {NW : List Cond} {s U : State} (hN : ∀ w ∈ NW, nwOk w = true) (hW : s.WarmedH U.vm) (h : kn D cl tys NW s) : kn D cl tys NW U :=
  ⟨va_K.moved hW.alike h.1, fun w hw => nw_warm (hN w hw) hW (h.2 w hw)⟩
theorem kn_call {D : va_G} {cl : List vw_C} {tys : List (ClassId × FieldType)} {NW : List Cond} {U : State} {g : JFrame} {mk : MethodId} {a : Array Value} (hN : ∀ w ∈ NW, nwOk w = true) (h : kn D cl tys NW U) : kn D cl tys NW (U.calling g mk a) :=
  ⟨va_K.moved (u := U) (U := U.calling g mk a) (Vm.Alike.refl U.vm) h.1, fun w hw => nw_same (u := U) (U := U.calling g mk a) (hN w hw) rfl (h.2 w hw)⟩
/-- a world at a state -/
def wd (D : va_G) (cl : List vw_C) (N0 : Nat) (ws : va_W) (t : State) : Prop := va_P D cl ws t.heap ∧ va_D (ga N0) ws
/-- a world on the way -/
def bd (D : va_G) (cl : List vw_C) (N0 N1 : Nat) (ws : va_W) (s : State) (H : Heap) (locs : List Loc) : Prop := va_P D cl ws H ∧ va_D (ga N0) ws ∧ va_S (ga N1) s.heap H locs
def pcx (D : va_G) (cl : List vw_C) (tys : List (ClassId × FieldType)) (NW : List Cond) (N0 N1 : Nat) (av : List Value) (ws : va_W) : Array Value → State → Prop := va_Pc av (fun U => N1 ≤ U.heap.size ∧ kn D cl tys NW U ∧ wd D cl N0 ws U)
def qx (D : va_G) (cl : List vw_C) (N0 N1 : Nat) (v : Option Value) (PW : va_W → Prop) : Array Value → State → Outcome → State → Prop := fun _ st o t => o = .returned v ∧ (∃ ws, PW ws ∧ wd D cl N0 ws t) ∧ va_F (ga N1) st t
/-- what stays the same on the way through a method -/
def cx (D : va_G) (cl : List vw_C) (tys : List (ClassId × FieldType)) (NW Ts : List Cond) (N1 : Nat) (p : Program) (s : State) (m : MethodId) (args : Array Value) (meth : Method) (c : Code) (cc : ByteArray) (nL : Nat) (ret : Option FieldType) (own : String) : Prop :=
  p.tables.exec = Jvm.exec ∧ c.code = cc ∧ meth.sig.returnType = ret ∧ c.maxLocals = nL ∧ s.vm.findClass own = some m.cls ∧ (∀ w ∈ Ts, w.before args s = true) ∧ meth.locks = false ∧ kn D cl tys NW s ∧ N1 ≤ s.heap.size ∧ ∀ w ∈ NW, nwOk w = true
section FW
variable {p : Program} {l : Launch} {e : Env} {R : Room} {s : State} {m : MethodId} {args : Array Value} {below : List Frame} {meth : Method} {c : Code} {H : Heap} {locs : List Loc} {cells slots : Nat} {Q : State → Prop}
variable {cc : ByteArray} {pc nL : Nat} {ls : Array Slot} {rest st0 : List Value} {D : va_G} {cl : List vw_C} {tys : List (ClassId × FieldType)} {NW Ts : List Cond} {N0 N1 : Nat} {ws : va_W} {PW : va_W → Prop} {ret : Option FieldType} {own : String}
/-- a contract out of its walk -/
theorem met_of {y : MethodName} {rm : Room} {av : List Value} {v : Option Value} {maxL : Nat} {mc ms : Nat} (hy : plainName y.cls = true) (hyc : y.cls = own) (hN : ∀ w ∈ NW, nwOk w = true)
    (body : ∀ (p : Program) (e : Env) (s : State) (m : MethodId) (below : List Frame) (meth : Method) (c : Code), cx D cl tys NW Ts N1 p s m av.toArray meth c cc maxL ret own → (y.name = "<init>" → meth.name = "<init>") → bd D cl N0 N1 ws s s.heap [] →
      W p l e rm s m av.toArray below meth c s.heap [] 0 0 (MQ below (qx D cl N0 N1 v PW) av.toArray s mc ms (ga N1)) (entryFrame m av.toArray maxL)) :
    Met l y (Cond.code y cc maxL ret :: Ts) rm (pcx D cl tys NW N0 N1 av ws) (qx D cl N0 N1 v PW) mc ms (ga N1) := by
  refine Met.ofW (cc := cc) (maxL := maxL) (ret := ret) hy rfl ?_
  intro p e s m args below meth c s₁ B hml hv
  obtain ⟨rfl, hN0, hK, hP, hD⟩ := hv
  have hts := atoms_spec (ws := Cond.code y cc maxL ret :: Ts) B.pre
  have hown : s.vm.findClass own = some m.cls := by rw [← hyc]; exact findClass_of_methodNamed B.named
  exact body p e s m below meth c ⟨B.exec, B.bytes, B.returns, hml, hown, fun w h => hts w (List.mem_cons_of_mem _ h), B.notSynchronized, hK, hN0, hN⟩ (fun h => by rw [← h]; exact (name_of_methodNamed B.named B.method).1) ⟨hP, hD, va_S.rf⟩
/-- behind a call -/
theorem kc {v : Option Value} {mc ms : Nat} {a : Array Value} (hB : bd D cl N0 N1 ws s H locs) (hr : va_Run p l e R s m args below meth c H locs cells slots mc ms (F0 m pc ls st0) rest (qx D cl N0 N1 v PW a) (ga N1))
    (kk : ∀ (H1 : Heap) (locs1 : List Loc) (ws1 : va_W), PW ws1 → bd D cl N0 N1 ws1 s H1 locs1 → W p l e R s m args below meth c H1 locs1 (cells + mc) (slots + ms) Q (F0 m (pc + 3) ls (v.toList ++ rest))) : W p l e R s m args below meth c H locs cells slots Q (F0 m pc ls st0) := by
  intro T hT X
  obtain ⟨v', st₀, t, T', L, h0, X', hL, e1, e2, ⟨hv, ⟨ws1, hpw, hwd⟩, hz, hk⟩, st⟩ := hr T hT X
  cases hv
  obtain ⟨hP, hD, hS⟩ := hB
  rw [h0] at hz hk
  obtain ⟨t2, a1, b1⟩ := kk T'.heap (locs ++ L) ws1 hpw ⟨by rw [e1]; exact hwd.1, hwd.2, Nat.le_trans hS.1 (by rw [e1]; exact hz), fun q h1 h2 => by rw [e1, hk q (Nat.lt_of_lt_of_le h1 hS.1) h2]; exact hS.2.1 q h1 h2, fun q hq => by
      rcases List.mem_append.mp hq with h | h
      · exact hS.2.2 q h
      · exact hL q h⟩ T' rfl X'
  exact ⟨t2, st t2 a1, b1⟩
/-- the start of a callee -/
theorem pcx_ok {av : List Value} (hC : cx D cl tys NW Ts N1 p s m args meth c cc nL ret own) (hB : bd D cl N0 N1 ws s H locs) : FrameBlind (pcx D cl tys NW N0 N1 av ws) ∧ ∀ U : State, U.heap = H → s.WarmedH U.vm → pcx D cl tys NW N0 N1 av ws av.toArray U := by
  obtain ⟨-, -, -, -, -, -, -, hK, hN, hNW⟩ := hC
  refine ⟨fun a U g mk q => ?_, fun U hU hW => ⟨rfl, ?_, kn_warm hNW hW hK, ?_, hB.2.1⟩⟩
  · obtain ⟨q0, q1, q2, q3, q4⟩ := q
    exact ⟨q0, q1, kn_call hNW q2, q3, q4⟩
  · rw [hU]; exact Nat.le_trans hN hB.2.2.1
  · rw [hU]; exact hB.1
/-- a word of the tables that goes on -/
theorem good_all {y : Cond} (hT : ∀ w ∈ Ts, goodWord w = true) (hy : y ∈ Ts) : GoodIn Ts (y :: Ts) := by
  intro w hw
  rcases List.mem_cons.mp hw with h | h
  · subst h; exact ⟨hy, good_of_word (hT _ hy)⟩
  · exact ⟨h, good_of_word (hT _ h)⟩
end FW
section FW2
variable {p : Program} {l : Launch} {e : Env} {R : Room} {s : State} {m : MethodId} {args : Array Value} {below : List Frame} {meth : Method} {c : Code} {H : Heap} {locs : List Loc} {cells slots : Nat} {Q : State → Prop}
variable {cc : ByteArray} {pc nL : Nat} {ls : Array Slot} {rest st0 : List Value} {D : va_G} {cl : List vw_C} {tys : List (ClassId × FieldType)} {NW Ts : List Cond} {N0 N1 : Nat} {ws ws' : va_W} {PW : va_W → Prop} {ret : Option FieldType} {own : String}
/-- a field is read -/
theorem gt {C : String} {T : u_T} {N ci index a : Nat} {fs : List Value} {v : Value} (hC : cx D cl tys NW Ts N1 p s m args meth c cc nL ret own) (hB : bd D cl N0 N1 ws s H locs) (q0 : Nat) (he : ws[q0]? = some (a, .inr (ci, fs))) (hc : cl[ci]? = some (C, T, N)) (hin : ∀ w ∈ u_ws C T N, w ∈ Ts) (k : Nat) (hk : k < N) (hdc : (T k).1 = C) (hlink : Cond.fieldLink own index C (T k).2.1 (T k).2.2.1 ∈ Ts) (hv : fs[k]? = some v) (hdg : decode cc pc = .ok (.getfield index, 3))
    (kk : W p l e R s m args below meth c H locs cells slots Q (F0 m (pc + 3) ls (v :: rest))) : W p l e R s m args below meth c H locs cells slots Q (F0 m pc ls (.ref a :: rest)) :=
  va_get (D := D) (C := C) (T := T) (N := N) (ref := C) hC.1 hC.2.1 hC.2.2.2.2.2.1 hin hC.2.2.2.2.1 hC.2.2.2.2.2.2.2.1.1 hB.1 q0 he hc k hk (hC.2.2.2.2.2.1 _ hlink) (fun x h => by rw [hdc] at h; exact h) hv hdg kk
/-- a field is written -/
theorem pt {C : String} {T : u_T} {N ci index a : Nat} {fs : List Value} {v : Value} {ty : FieldType} (h01 : N1 = N0) (hC : cx D cl tys NW Ts N1 p s m args meth c cc nL ret own) (hB : bd D cl N0 N1 ws s H locs) (q0 : Nat) (he : ws[q0]? = some (a, .inr (ci, fs))) (hc : cl[ci]? = some (C, T, N)) (hin : ∀ w ∈ u_ws C T N, w ∈ Ts) (ty0 : Nat → FieldType) (hty : ∀ k, k < N → parseFieldDescriptor (T k).2.2.1 = some (ty0 k)) (hnm : ∀ a, a < N → ∀ b, b < N → a ≠ b → (T a).2.1 ≠ (T b).2.1) (k : Nat) (hk : k < N) (hdc : (T k).1 = C) (hfin : (T k).2.2.2 = false) (hlink : Cond.fieldLink own index C (T k).2.1 (T k).2.2.1 ∈ Ts) (hd : parseFieldDescriptor (T k).2.2.1 = some ty) (hn : narrow ty v = v) (hfit : fits ty v = true) (hl : k < fs.length) (hdg : decode cc pc = .ok (.putfield index, 3))
    (hws : ws.set q0 (a, .inr (ci, fs.set k v)) = ws')
    (kk : ∀ (H1 : Heap) (locs1 : List Loc), bd D cl N0 N1 ws' s H1 locs1 → W p l e R s m args below meth c H1 locs1 cells slots Q (F0 m (pc + 3) ls rest)) : W p l e R s m args below meth c H locs cells slots Q (F0 m pc ls (v :: .ref a :: rest)) := by
  subst hws
  subst h01
  exact va_put (D := D) (C := C) (T := T) (N := N) (ref := C) hC.1 hC.2.1 hC.2.2.2.2.2.1 hin ty0 hty hnm hC.2.2.2.2.1 hC.2.2.2.2.2.2.2.1.1 hB.1 hB.2.1 hB.2.2 q0 he hc k hk (hC.2.2.2.2.2.1 _ hlink) (fun x h => by rw [hdc] at h; exact h) hfin hd hn hfit hl hdg (fun H1 locs1 h1 h2 h3 => kk H1 locs1 ⟨h1, h2, h3⟩)
/-- a final field is written by a constructor -/
theorem ptF {C : String} {T : u_T} {N ci index a : Nat} {fs : List Value} {v : Value} {ty : FieldType} (h01 : N1 = N0) (hC : cx D cl tys NW Ts N1 p s m args meth c cc nL ret own) (hin2 : meth.name = "<init>") (hB : bd D cl N0 N1 ws s H locs) (q0 : Nat) (he : ws[q0]? = some (a, .inr (ci, fs))) (hc : cl[ci]? = some (C, T, N)) (hin : ∀ w ∈ u_ws C T N, w ∈ Ts) (ty0 : Nat → FieldType) (hty : ∀ k, k < N → parseFieldDescriptor (T k).2.2.1 = some (ty0 k)) (hnm : ∀ a, a < N → ∀ b, b < N → a ≠ b → (T a).2.1 ≠ (T b).2.1) (k : Nat) (hk : k < N) (hdc : (T k).1 = C) (hoc : own = C) (hfin : (T k).2.2.2 = true) (hlink : Cond.fieldLink own index C (T k).2.1 (T k).2.2.1 ∈ Ts) (hd : parseFieldDescriptor (T k).2.2.1 = some ty) (hn : narrow ty v = v) (hfit : fits ty v = true) (hl : k < fs.length) (hdg : decode cc pc = .ok (.putfield index, 3))
    (hws : ws.set q0 (a, .inr (ci, fs.set k v)) = ws')
    (kk : ∀ (H1 : Heap) (locs1 : List Loc), bd D cl N0 N1 ws' s H1 locs1 → W p l e R s m args below meth c H1 locs1 cells slots Q (F0 m (pc + 3) ls rest)) : W p l e R s m args below meth c H locs cells slots Q (F0 m pc ls (v :: .ref a :: rest)) := by
  subst hws
  subst h01
  exact va_putF (D := D) (C := C) (T := T) (N := N) (ref := C) hC.1 hC.2.1 hC.2.2.2.2.2.1 hin ty0 hty hnm hC.2.2.2.2.1 hC.2.2.2.2.2.2.2.1.1 hB.1 hB.2.1 hB.2.2 q0 he hc k hk (hC.2.2.2.2.2.1 _ hlink) (fun x h => by rw [hdc] at h; exact h) hfin hin2 (hdc.trans hoc.symm) hd hn hfit hl hdg (fun H1 locs1 h1 h2 h3 => kk H1 locs1 ⟨h1, h2, h3⟩)
/-- references that may be null -/
theorem kq_aload {i : Nat} {x : Option Nat} (hexec : p.tables.exec = Jvm.exec) (hb : c.code = cc) (hdg : decode cc pc = .ok (.aload i, 2)) (hl : ls[i]? = some (.val (va_rf x)))
    (k : W p l e R s m args below meth c H locs cells slots Q (F0 m (pc + 2) ls (va_rf x :: rest))) : W p l e R s m args below meth c H locs cells slots Q (F0 m pc ls rest) := by
  cases x with
  | none => exact lv_aloadN hexec hb hdg hl k
  | some a => exact lv_aload hexec hb hdg hl k
theorem kq_aload_n {i : Nat} {j : Fin 4} {x : Option Nat} (hexec : p.tables.exec = Jvm.exec) (hb : c.code = cc) (hdg : decode cc pc = .ok (.aload_n j, 1)) (hi : (j : Nat) = i) (hl : ls[i]? = some (.val (va_rf x)))
    (k : W p l e R s m args below meth c H locs cells slots Q (F0 m (pc + 1) ls (va_rf x :: rest))) : W p l e R s m args below meth c H locs cells slots Q (F0 m pc ls rest) := by
  cases x with
  | none => exact lv_aload_nN hexec hb hdg hi hl k
  | some a => exact lv_aload_n hexec hb hdg hi hl k
theorem kq_astore_n {j : Fin 4} {i nL : Nat} {x : Option Nat} {lv lv' : List (Nat × Value)} (hexec : p.tables.exec = Jvm.exec) (hb : c.code = cc) (hdg : decode cc pc = .ok (.astore_n j, 1)) (hi : (j : Nat) = i) (h : lv_has ls nL lv) (hn : i < nL) (hl : (i, va_rf x) :: lv.filter (fun q => !(q.1 == i) && !(q.1 + 1 == i && q.2.category == 2)) = lv')
    (kk : ∀ ls' : Array Slot, lv_has ls' nL lv' → W p l e R s m args below meth c H locs cells slots Q (F0 m (pc + 1) ls' rest)) : W p l e R s m args below meth c H locs cells slots Q (F0 m pc ls (va_rf x :: rest)) := by
  cases x with
  | none => exact lv_astore_nN hexec hb hdg hi h hn hl kk
  | some a => exact lv_astore_n hexec hb hdg hi h hn hl kk
/-- a place of an array is written -/
theorem as_l {cA : ClassId} {a n : Nat} {f : Nat → Int64} {i : Int32} {x : Int64} (h01 : N1 = N0) (hC : cx D cl tys NW Ts N1 p s m args meth c cc nL ret own) (hB : bd D cl N0 N1 ws s H locs) (q0 t0 : Nat) (ha : ws[q0]? = some (a, .inl (cA, n, .inr (.inl f)))) (ht : tys[t0]? = some (cA, .long)) (hin : vp_in i n) (hdg : decode cc pc = .ok (.lastore, 1)) (hws : ws.set q0 (a, .inl (cA, n, .inr (.inl (vp_updL f i.toNatClampNeg x)))) = ws')
    (kk : ∀ (H1 : Heap) (locs1 : List Loc), bd D cl N0 N1 ws' s H1 locs1 → W p l e R s m args below meth c H1 locs1 cells slots Q (F0 m (pc + 1) ls rest)) : W p l e R s m args below meth c H locs cells slots Q (F0 m pc ls (.long x :: .int i :: .ref a :: rest)) := by
  subst hws
  subst h01
  exact va_last hC.1 hC.2.1 hC.2.2.2.2.2.2.2.1.1 hB.1 hB.2.1 hB.2.2 q0 t0 ha ht hin hdg (fun H1 locs1 h1 h2 h3 => kk H1 locs1 ⟨h1, h2, h3⟩)
theorem as_i {cA : ClassId} {a n : Nat} {f : Nat → Int32} {i : Int32} {x : Int32} (h01 : N1 = N0) (hC : cx D cl tys NW Ts N1 p s m args meth c cc nL ret own) (hB : bd D cl N0 N1 ws s H locs) (q0 t0 : Nat) (ha : ws[q0]? = some (a, .inl (cA, n, .inl f))) (ht : tys[t0]? = some (cA, .int)) (hin : vp_in i n) (hdg : decode cc pc = .ok (.iastore, 1)) (hws : ws.set q0 (a, .inl (cA, n, .inl (upd f i.toNatClampNeg x))) = ws')
    (kk : ∀ (H1 : Heap) (locs1 : List Loc), bd D cl N0 N1 ws' s H1 locs1 → W p l e R s m args below meth c H1 locs1 cells slots Q (F0 m (pc + 1) ls rest)) : W p l e R s m args below meth c H locs cells slots Q (F0 m pc ls (.int x :: .int i :: .ref a :: rest)) := by
  subst hws
  subst h01
  exact va_iast hC.1 hC.2.1 hC.2.2.2.2.2.2.2.1.1 hB.1 hB.2.1 hB.2.2 q0 t0 ha ht hin hdg (fun H1 locs1 h1 h2 h3 => kk H1 locs1 ⟨h1, h2, h3⟩)
/-- what is known of a callee -/
def mf (Ts : List Cond) (C : String) (y : MethodName) (bytes : ByteArray) (maxL : Nat) (rt : Option FieldType) (n : Nat) : Prop :=
  Cond.code y bytes maxL rt ∈ Ts ∧ Cond.initialized C ∈ Ts ∧ y.cls = C ∧ y.cls ≠ "java/lang/invoke/MethodHandle" ∧ y.cls ≠ "java/lang/invoke/VarHandle" ∧ (parseMethodDescriptor y.desc).map (fun d => d.parameters.length) = some n
/-- a call of an object's method -/
theorem kV {C : String} {T : u_T} {N ci index n maxL mc ms b : Nat} {fs As : List Value} {y : MethodName} {bytes : ByteArray} {rt : Option FieldType} {rm : Room} {v : Option Value} (hC : cx D cl tys NW Ts N1 p s m args meth c cc nL ret own) (hB : bd D cl N0 N1 ws s H locs) (q0 : Nat) (he : ws[q0]? = some (b, .inr (ci, fs))) (hc : cl[ci]? = some (C, T, N))
    (hM : Met l y (Cond.code y bytes maxL rt :: Ts) rm (pcx D cl tys NW N0 N1 (.ref b :: As) ws) (qx D cl N0 N1 v PW) mc ms (ga N1)) (hT : ∀ w ∈ Ts, goodWord w = true) (hF : mf Ts C y bytes maxL rt n) (hi : Cond.instanceMethod y ∈ Ts) (hs : Cond.selects C y y ∈ Ts) (hl : Cond.methodLink own index y ∈ Ts)
    (hrm : rm.cells = mc ∧ rm.slots = ms ∧ rm.frames + 1 ≤ R.frames ∧ 8 + (maxL + 11) + rm.locals ≤ R.locals) (hst : st0 = As.reverse ++ .ref b :: rest) (hn : As.length = n) (hsz : ls.size = nL) (hw8 : (rest.map fun v => v.category).sum ≤ 8) (hdg : decode cc pc = .ok (.invokevirtual index, 3)) (hf : cells + mc ≤ R.cells ∧ slots + ms ≤ R.slots)
    (kk : ∀ (H1 : Heap) (locs1 : List Loc) (ws1 : va_W), PW ws1 → bd D cl N0 N1 ws1 s H1 locs1 → W p l e R s m args below meth c H1 locs1 (cells + mc) (slots + ms) Q (F0 m (pc + 3) ls (v.toList ++ rest))) : W p l e R s m args below meth c H locs cells slots Q (F0 m pc ls st0) := by
  obtain ⟨f1, f2, f3, f4, f5, f6⟩ := hF
  obtain ⟨r1, r2, r3, r4⟩ := hrm
  have hP := pcx_ok (av := .ref b :: As) hC hB
  have hG : GoodIn Ts (wsV own index C y (Cond.code y bytes maxL rt :: Ts)) := by
    intro w hw
    have hm : w ∈ Ts := by
      simp only [wsV, List.cons_append, List.nil_append, List.mem_cons] at hw
      rcases hw with h | h | h | h | h | h
      · rw [h]; exact hl
      · rw [h]; exact hi
      · rw [h]; exact hs
      · rw [h]; exact f2
      · rw [h]; exact f1
      · exact h
    exact ⟨hm, good_of_word (hT _ hm)⟩
  exact kc hB (va_runV (As := As) (rest := rest) (n := n) (C := C) (Ts := Ts) (own := own) ⟨hC.1, hC.2.1, hC.2.2.2.1, hC.2.2.2.2.1, hC.2.2.2.2.2.1⟩ hM (cwV n hC.2.2.2.2.2.1 hG rfl r1 r2 ⟨f3, f4, f5, f6⟩ ⟨r3, r4⟩) ⟨hP.1, va_recv hC.2.2.2.2.2.2.2.1.1 hB.1 hc he, hP.2⟩ rfl hn hsz hst (lv_room hw8) hdg hf) kk
/-- a call of a static method -/
theorem kS {C : String} {index n maxL mc ms : Nat} {As : List Value} {y : MethodName} {bytes : ByteArray} {rt : Option FieldType} {rm : Room} {v : Option Value} (hC : cx D cl tys NW Ts N1 p s m args meth c cc nL ret own) (hB : bd D cl N0 N1 ws s H locs)
    (hM : Met l y (Cond.code y bytes maxL rt :: Ts) rm (pcx D cl tys NW N0 N1 As ws) (qx D cl N0 N1 v PW) mc ms (ga N1)) (hT : ∀ w ∈ Ts, goodWord w = true) (hF : mf Ts C y bytes maxL rt n) (hi : Cond.static y ∈ Ts) (hl : Cond.methodLink own index y ∈ Ts)
    (hrm : rm.cells = mc ∧ rm.slots = ms ∧ rm.frames + 1 ≤ R.frames ∧ 8 + (maxL + 11) + rm.locals ≤ R.locals) (hst : st0 = As.reverse ++ rest) (hn : As.length = n) (hsz : ls.size = nL) (hw8 : (rest.map fun v => v.category).sum ≤ 8) (hdg : decode cc pc = .ok (.invokestatic index, 3)) (hf : cells + mc ≤ R.cells ∧ slots + ms ≤ R.slots)
    (kk : ∀ (H1 : Heap) (locs1 : List Loc) (ws1 : va_W), PW ws1 → bd D cl N0 N1 ws1 s H1 locs1 → W p l e R s m args below meth c H1 locs1 (cells + mc) (slots + ms) Q (F0 m (pc + 3) ls (v.toList ++ rest))) : W p l e R s m args below meth c H locs cells slots Q (F0 m pc ls st0) := by
  obtain ⟨f1, f2, f3, f4, f5, f6⟩ := hF
  obtain ⟨r1, r2, r3, r4⟩ := hrm
  subst f3
  have hP := pcx_ok (av := As) hC hB
  have hG : GoodIn Ts (va_wsS own index y (Cond.code y bytes maxL rt :: Ts)) := by
    intro w hw
    have hm : w ∈ Ts := by
      simp only [va_wsS, List.cons_append, List.nil_append, List.mem_cons] at hw
      rcases hw with h | h | h | h | h
      · rw [h]; exact hl
      · rw [h]; exact hi
      · rw [h]; exact f2
      · rw [h]; exact f1
      · exact h
    exact ⟨hm, good_of_word (hT _ hm)⟩
  exact kc hB (va_runS (As := As) (rest := rest) (n := n) (Ts := Ts) (own := own) ⟨hC.1, hC.2.1, hC.2.2.2.1, hC.2.2.2.2.1, hC.2.2.2.2.2.1⟩ hM (va_cwS n hC.2.2.2.2.2.1 hG rfl r1 r2 ⟨f4, f5, f6⟩ ⟨r3, r4⟩) ⟨hP.1, hP.2⟩ rfl hn hsz hst (lv_room hw8) hdg hf) kk
/-- a call of a private static method of a nest mate -/
theorem kSN {host : String} {index n maxL mc ms : Nat} {As : List Value} {y : MethodName} {C : String} {bytes : ByteArray} {rt : Option FieldType} {rm : Room} {v : Option Value} (hC : cx D cl tys NW Ts N1 p s m args meth c cc nL ret own) (hB : bd D cl N0 N1 ws s H locs)
    (hM : Met l y (Cond.code y bytes maxL rt :: Ts) rm (pcx D cl tys NW N0 N1 As ws) (qx D cl N0 N1 v PW) mc ms (ga N1)) (hT : ∀ w ∈ Ts, goodWord w = true) (hF : mf Ts C y bytes maxL rt n) (hi : Cond.static y ∈ Ts) (hl : Cond.methodLinkNest own index y host ∈ NW)
    (hrm : rm.cells = mc ∧ rm.slots = ms ∧ rm.frames + 1 ≤ R.frames ∧ 8 + (maxL + 11) + rm.locals ≤ R.locals) (hst : st0 = As.reverse ++ rest) (hn : As.length = n) (hsz : ls.size = nL) (hw8 : (rest.map fun v => v.category).sum ≤ 8) (hdg : decode cc pc = .ok (.invokestatic index, 3)) (hf : cells + mc ≤ R.cells ∧ slots + ms ≤ R.slots)
    (kk : ∀ (H1 : Heap) (locs1 : List Loc) (ws1 : va_W), PW ws1 → bd D cl N0 N1 ws1 s H1 locs1 → W p l e R s m args below meth c H1 locs1 (cells + mc) (slots + ms) Q (F0 m (pc + 3) ls (v.toList ++ rest))) : W p l e R s m args below meth c H locs cells slots Q (F0 m pc ls st0) := by
  obtain ⟨f1, f2, f3, f4, f5, f6⟩ := hF
  obtain ⟨r1, r2, r3, r4⟩ := hrm
  have hP := pcx_ok (av := As) hC hB
  exact kc hB (va_runSN (As := As) (rest := rest) (n := n) (Ts := Ts) (own := own) (host := host) ⟨hC.1, hC.2.1, hC.2.2.2.1, hC.2.2.2.2.1, hC.2.2.2.2.2.1⟩ hM ⟨va_cnB n hC.2.2.2.2.2.1 (good_all hT f1) rfl r1 r2 (hC.2.2.2.2.2.2.2.1.2 _ hl) (by rw [f3]; exact hC.2.2.2.2.2.1 _ f2) ⟨f4, f5, f6⟩ ⟨r3, r4⟩, hC.2.2.2.2.2.1 _ hi, trivial⟩ ⟨hP.1, hP.2⟩ rfl hn hsz hst (lv_room hw8) hdg hf) kk
/-- returns -/
theorem ri {v : Int32} (hC : cx D cl tys NW Ts N1 p s m args meth c cc nL (some .int) own) (hB : bd D cl N0 N1 ws s H locs) (hp : PW ws) (hdg : decode cc pc = .ok (.ireturn, 1)) : W p l e R s m args below meth c H locs cells slots (MQ below (qx D cl N0 N1 (some (.int v)) PW) args s cells slots (ga N1)) (F0 m pc ls [.int v]) :=
  W.iret hC.1 hC.2.1 hC.2.2.1 (fun t ht _ => ⟨rfl, ⟨_, hp, by rw [ht]; exact hB.1, hB.2.1⟩, hB.2.2.F ht⟩) hB.2.2.2.2 hdg hC.2.2.2.2.2.2.1
theorem rz {b : Bool} (hC : cx D cl tys NW Ts N1 p s m args meth c cc nL (some .boolean) own) (hB : bd D cl N0 N1 ws s H locs) (hp : PW ws) (hdg : decode cc pc = .ok (.ireturn, 1)) : W p l e R s m args below meth c H locs cells slots (MQ below (qx D cl N0 N1 (some (.int (bi b))) PW) args s cells slots (ga N1)) (F0 m pc ls [.int (bi b)]) :=
  W.zret hC.1 hC.2.1 hC.2.2.1 (bi_z b) (fun t ht _ => ⟨rfl, ⟨_, hp, by rw [ht]; exact hB.1, hB.2.1⟩, hB.2.2.F ht⟩) hB.2.2.2.2 hdg hC.2.2.2.2.2.2.1
theorem rl {v : Int64} (hC : cx D cl tys NW Ts N1 p s m args meth c cc nL (some .long) own) (hB : bd D cl N0 N1 ws s H locs) (hp : PW ws) (hdg : decode cc pc = .ok (.lreturn, 1)) : W p l e R s m args below meth c H locs cells slots (MQ below (qx D cl N0 N1 (some (.long v)) PW) args s cells slots (ga N1)) (F0 m pc ls [.long v]) :=
  W.lret hC.1 hC.2.1 hC.2.2.1 (fun t ht _ => ⟨rfl, ⟨_, hp, by rw [ht]; exact hB.1, hB.2.1⟩, hB.2.2.F ht⟩) hB.2.2.2.2 hdg hC.2.2.2.2.2.2.1
theorem rv (hC : cx D cl tys NW Ts N1 p s m args meth c cc nL none own) (hB : bd D cl N0 N1 ws s H locs) (hp : PW ws) (hdg : decode cc pc = .ok (.return_, 1)) : W p l e R s m args below meth c H locs cells slots (MQ below (qx D cl N0 N1 none PW) args s cells slots (ga N1)) (F0 m pc ls []) :=
  W.vret hC.1 hC.2.1 hC.2.2.1 (fun t ht _ => ⟨rfl, ⟨_, hp, by rw [ht]; exact hB.1, hB.2.1⟩, hB.2.2.F ht⟩) hB.2.2.2.2 hdg hC.2.2.2.2.2.2.1
end FW2
/-! loops: a counter that goes up to a bound, one that goes down below 0 -/
def upI (n : Nat) (b x : Int32) : Prop := 0 ≤ x.toInt ∧ x.toInt ≤ max 0 b.toInt ∧ max 0 b.toInt < x.toInt + n
theorem up_zero {b x : Int32} : ¬ upI 0 b x := by
  rintro ⟨_, h1, h2⟩
  omega
theorem i1_toInt {x : Int32} (h0 : 0 ≤ x.toInt) (h1 : x.toInt < 2147483647) : (x + 1).toInt = x.toInt + 1 := by
  have hx : ¬ x < 0 := by rw [Int32.lt_iff_toInt_lt]; show ¬ x.toInt < 0; omega
  obtain ⟨j, hj, rfl⟩ := nI_of hx
  rw [nI_toInt hj] at h1 ⊢
  rw [nI_1, nI_toInt (by omega)]
  omega
theorem up_step {n : Nat} {b x : Int32} (h : upI (n + 1) b x) (c : ¬ b ≤ x) : upI n b (x + 1) := by
  obtain ⟨h0, h1, h2⟩ := h
  rw [Int32.le_iff_toInt_le] at c
  have hb := b.toInt_lt
  have e := i1_toInt h0 (by omega)
  refine ⟨by omega, by omega, by omega⟩
theorem up_init (b : Int32) : upI (b.toNatClampNeg + 1) b 0 := by
  have h : (b.toNatClampNeg : Int) = max 0 b.toInt := by
    show ((b.toInt.toNat : Nat) : Int) = _
    omega
  refine ⟨by decide, ?_, ?_⟩
  · show (0 : Int) ≤ _
    omega
  · show max 0 b.toInt < (0 : Int) + _
    omega
def dnI (n : Nat) (x : Int32) : Prop := max (-1) x.toInt + 1 < n
theorem dn_zero {x : Int32} : ¬ dnI 0 x := by
  unfold dnI
  omega
theorem dn_step {n : Nat} {x : Int32} (h : dnI (n + 1) x) (c : ¬ x < 0) : dnI n (x + (-1)) := by
  unfold dnI at h ⊢
  obtain ⟨j, hj, rfl⟩ := nI_of c
  rw [nI_toInt hj] at h
  cases j with
  | zero =>
    have : (nI 0 + (-1) : Int32).toInt = -1 := by decide
    omega
  | succ j =>
    rw [pk_m1, nI_toInt (by omega)]
    omega
theorem dn_init (x : Int32) : dnI (x.toNatClampNeg + 2) x := by
  unfold dnI
  have h : (x.toNatClampNeg : Int) = max 0 x.toInt := by
    show ((x.toInt.toNat : Nat) : Int) = _
    omega
  omega
theorem vinU {n N : Nat} {b x : Int32} (h : upI (n + 1) b x) (e : b = nI N) (c : ¬ b ≤ x) (hN : N < 2 ^ 31) : vp_in x N := by
  subst e
  have h0 : ¬ x < 0 := by rw [Int32.lt_iff_toInt_lt]; have := h.1; show ¬ x.toInt < 0; omega
  obtain ⟨j, hj, rfl, -⟩ := pk_mu h0 c hN
  exact vp_in_nI hj hN
section FW4
variable {p : Program} {l : Launch} {e : Env} {R : Room} {s : State} {m : MethodId} {args : Array Value} {below : List Frame} {meth : Method} {c : Code} {H : Heap} {locs : List Loc} {cells slots : Nat} {Q : State → Prop}
variable {cc : ByteArray} {pc nL : Nat} {ls : Array Slot} {rest st0 : List Value} {D : va_G} {cl : List vw_C} {tys : List (ClassId × FieldType)} {NW Ts : List Cond} {N0 N1 : Nat} {ws ws' : va_W} {PW : va_W → Prop} {ret : Option FieldType} {own : String}
theorem nar_rf (C : String) (o : Option Nat) : narrow (.object C) (va_rf o) = va_rf o := by cases o <;> rfl
theorem fit_rf (C : String) (o : Option Nat) : fits (.object C) (va_rf o) = true := by cases o <;> rfl
/-- a private field of a nest mate is read -/
theorem gtN {C host : String} {T : u_T} {N ci index a : Nat} {fs : List Value} {v : Value} (hC : cx D cl tys NW Ts N1 p s m args meth c cc nL ret own) (hB : bd D cl N0 N1 ws s H locs) (q0 : Nat) (he : ws[q0]? = some (a, .inr (ci, fs))) (hc : cl[ci]? = some (C, T, N)) (hin : ∀ w ∈ u_ws C T N, w ∈ Ts) (k : Nat) (hk : k < N) (hdc : (T k).1 = C) (hlink : Cond.fieldLinkNest own index C (T k).2.1 (T k).2.2.1 host ∈ NW) (hv : fs[k]? = some v) (hdg : decode cc pc = .ok (.getfield index, 3))
    (kk : W p l e R s m args below meth c H locs cells slots Q (F0 m (pc + 3) ls (v :: rest))) : W p l e R s m args below meth c H locs cells slots Q (F0 m pc ls (.ref a :: rest)) :=
  va_getN (D := D) (C := C) (T := T) (N := N) (ref := C) (host := host) hC.1 hC.2.1 hC.2.2.2.2.2.1 hin hC.2.2.2.2.1 hC.2.2.2.2.2.2.2.1.1 hB.1 q0 he hc k hk (va_Nw.use rfl (hC.2.2.2.2.2.2.2.1.2 _ hlink)) (fun x h => by rw [hdc] at h; exact h) hv hdg kk
/-- a private field of a nest mate is written -/
theorem ptN {C host : String} {T : u_T} {N ci index a : Nat} {fs : List Value} {v : Value} {ty : FieldType} (h01 : N1 = N0) (hC : cx D cl tys NW Ts N1 p s m args meth c cc nL ret own) (hB : bd D cl N0 N1 ws s H locs) (q0 : Nat) (he : ws[q0]? = some (a, .inr (ci, fs))) (hc : cl[ci]? = some (C, T, N)) (hin : ∀ w ∈ u_ws C T N, w ∈ Ts) (ty0 : Nat → FieldType) (hty : ∀ k, k < N → parseFieldDescriptor (T k).2.2.1 = some (ty0 k)) (hnm : ∀ a, a < N → ∀ b, b < N → a ≠ b → (T a).2.1 ≠ (T b).2.1) (k : Nat) (hk : k < N) (hdc : (T k).1 = C) (hfin : (T k).2.2.2 = false) (hlink : Cond.fieldLinkNest own index C (T k).2.1 (T k).2.2.1 host ∈ NW) (hd : parseFieldDescriptor (T k).2.2.1 = some ty) (hn : narrow ty v = v) (hfit : fits ty v = true) (hl : k < fs.length) (hdg : decode cc pc = .ok (.putfield index, 3))
    (hws : ws.set q0 (a, .inr (ci, fs.set k v)) = ws')
    (kk : ∀ (H1 : Heap) (locs1 : List Loc), bd D cl N0 N1 ws' s H1 locs1 → W p l e R s m args below meth c H1 locs1 cells slots Q (F0 m (pc + 3) ls rest)) : W p l e R s m args below meth c H locs cells slots Q (F0 m pc ls (v :: .ref a :: rest)) := by
  subst hws
  subst h01
  exact va_putN (D := D) (C := C) (T := T) (N := N) (ref := C) (host := host) hC.1 hC.2.1 hC.2.2.2.2.2.1 hin ty0 hty hnm hC.2.2.2.2.1 hC.2.2.2.2.2.2.2.1.1 hB.1 hB.2.1 hB.2.2 q0 he hc k hk (va_Nw.use rfl (hC.2.2.2.2.2.2.2.1.2 _ hlink)) (fun x h => by rw [hdc] at h; exact h) hfin hd hn hfit hl hdg (fun H1 locs1 h1 h2 h3 => kk H1 locs1 ⟨h1, h2, h3⟩)
/-- a new object -/
theorem nwo {C : String} {T : u_T} {N ci index : Nat} {fs : List Value} (h01 : N1 = N0) (hC : cx D cl tys NW Ts N1 p s m args meth c cc nL ret own) (hB : bd D cl N0 N1 ws s H locs) (hc : cl[ci]? = some (C, T, N)) (hin : ∀ w ∈ u_ws C T N, w ∈ Ts) (ty : Nat → FieldType) (hty : ∀ k, k < N → parseFieldDescriptor (T k).2.2.1 = some (ty k)) (hcl : Cond.classLink own index C ∈ Ts) (hinst : Cond.instantiable C N ∈ Ts) (hini : Cond.initialized C ∈ Ts) (hfs : ∀ j, j < N → defaultValue (ty j) = vp_V fs j) (hcells : cells + 1 ≤ R.cells) (hslots : slots + N ≤ R.slots) (hdg : decode cc pc = .ok (.new index, 3))
    (kk : ∀ (q : Nat) (H1 : Heap), bd D cl N0 N1 (ws ++ [(q, .inr (ci, fs))]) s H1 locs → W p l e R s m args below meth c H1 locs (cells + 1) (slots + N) Q (F0 m (pc + 3) ls (.ref q :: rest))) : W p l e R s m args below meth c H locs cells slots Q (F0 m pc ls rest) := by
  subst h01
  exact va_new (D := D) (C := C) (T := T) (N := N) hC.1 hC.2.1 hC.2.2.2.2.2.1 hin ty hty hC.2.2.2.2.1 (hC.2.2.2.2.2.1 _ hcl) (hC.2.2.2.2.2.1 _ hinst) (hC.2.2.2.2.2.1 _ hini) hC.2.2.2.2.2.2.2.1.1 hB.1 hB.2.1 hB.2.2 (fun q h => Nat.le_trans hC.2.2.2.2.2.2.2.2.1 h) hc hfs hcells hslots hdg (fun q H1 h1 h2 h3 => kk q H1 ⟨h1, h2, h3⟩)
/-- a new object lies apart -/
theorem nw_fresh {q : Nat} {x y : va_E} (hD : va_D (ga N0) (ws ++ [(q, x)])) : ∀ k : Nat, ws[k]? ≠ some (q, y) := by
  intro k hk
  have hl := (List.getElem?_eq_some_iff.mp hk).1
  have := hD.1 k ws.length (q, y) (q, x) (by rw [List.getElem?_append_left hl]; exact hk) (by simp) rfl
  omega
/-- a call of a constructor -/
theorem kI {C : String} {index n maxL mc ms b : Nat} {As : List Value} {y : MethodName} {bytes : ByteArray} {rm : Room} {v : Option Value} (hC : cx D cl tys NW Ts N1 p s m args meth c cc nL ret own) (hB : bd D cl N0 N1 ws s H locs)
    (hM : Met l y (Cond.code y bytes maxL none :: Ts) rm (pcx D cl tys NW N0 N1 (.ref b :: As) ws) (qx D cl N0 N1 v PW) mc ms (ga N1)) (hT : ∀ w ∈ Ts, goodWord w = true) (hF : mf Ts C y bytes maxL none n) (hi : Cond.instanceMethod y ∈ Ts) (hy1 : y.name = "<init>") (hl : Cond.methodLink own index y ∈ Ts)
    (hrm : rm.cells = mc ∧ rm.slots = ms ∧ rm.frames + 1 ≤ R.frames ∧ 8 + (maxL + 11) + rm.locals ≤ R.locals) (hst : st0 = As.reverse ++ .ref b :: rest) (hn : As.length = n) (hsz : ls.size = nL) (hw8 : (rest.map fun v => v.category).sum ≤ 8) (hdg : decode cc pc = .ok (.invokespecial index, 3)) (hf : cells + mc ≤ R.cells ∧ slots + ms ≤ R.slots)
    (kk : ∀ (H1 : Heap) (locs1 : List Loc) (ws1 : va_W), PW ws1 → bd D cl N0 N1 ws1 s H1 locs1 → W p l e R s m args below meth c H1 locs1 (cells + mc) (slots + ms) Q (F0 m (pc + 3) ls (v.toList ++ rest))) : W p l e R s m args below meth c H locs cells slots Q (F0 m pc ls st0) := by
  obtain ⟨f1, f2, f3, f4, f5, f6⟩ := hF
  obtain ⟨r1, r2, r3, r4⟩ := hrm
  subst f3
  have hP := pcx_ok (av := .ref b :: As) hC hB
  exact kc hB (va_runI (As := As) (rest := rest) (n := n) (Ts := Ts) (own := own) ⟨hC.1, hC.2.1, hC.2.2.2.1, hC.2.2.2.2.1, hC.2.2.2.2.2.1⟩ hM (cwI n hC.2.2.2.2.2.1 (good_all hT f1) rfl r1 r2 (hC.2.2.2.2.2.1 _ f2) (hC.2.2.2.2.2.1 _ hl) (hC.2.2.2.2.2.1 _ hi) hy1 ⟨f4, f5, f6⟩ ⟨r3, r4⟩) ⟨hP.1, hP.2⟩ rfl hn hsz hst (lv_room hw8) hdg hf) kk
/-- a call of a private constructor of a nest mate -/
theorem kIN {C host : String} {index n maxL mc ms b : Nat} {As : List Value} {y : MethodName} {bytes : ByteArray} {rm : Room} {v : Option Value} (hC : cx D cl tys NW Ts N1 p s m args meth c cc nL ret own) (hB : bd D cl N0 N1 ws s H locs)
    (hM : Met l y (Cond.code y bytes maxL none :: Ts) rm (pcx D cl tys NW N0 N1 (.ref b :: As) ws) (qx D cl N0 N1 v PW) mc ms (ga N1)) (hT : ∀ w ∈ Ts, goodWord w = true) (hF : mf Ts C y bytes maxL none n) (hi : Cond.instanceMethod y ∈ Ts) (hy1 : y.name = "<init>") (hl : Cond.methodLinkNest own index y host ∈ NW)
    (hrm : rm.cells = mc ∧ rm.slots = ms ∧ rm.frames + 1 ≤ R.frames ∧ 8 + (maxL + 11) + rm.locals ≤ R.locals) (hst : st0 = As.reverse ++ .ref b :: rest) (hn : As.length = n) (hsz : ls.size = nL) (hw8 : (rest.map fun v => v.category).sum ≤ 8) (hdg : decode cc pc = .ok (.invokespecial index, 3)) (hf : cells + mc ≤ R.cells ∧ slots + ms ≤ R.slots)
    (kk : ∀ (H1 : Heap) (locs1 : List Loc) (ws1 : va_W), PW ws1 → bd D cl N0 N1 ws1 s H1 locs1 → W p l e R s m args below meth c H1 locs1 (cells + mc) (slots + ms) Q (F0 m (pc + 3) ls (v.toList ++ rest))) : W p l e R s m args below meth c H locs cells slots Q (F0 m pc ls st0) := by
  obtain ⟨f1, f2, f3, f4, f5, f6⟩ := hF
  obtain ⟨r1, r2, r3, r4⟩ := hrm
  subst f3
  have hP := pcx_ok (av := .ref b :: As) hC hB
  exact kc hB (va_runIN (As := As) (rest := rest) (n := n) (Ts := Ts) (own := own) (host := host) ⟨hC.1, hC.2.1, hC.2.2.2.1, hC.2.2.2.2.1, hC.2.2.2.2.2.1⟩ hM ⟨va_cnB n hC.2.2.2.2.2.1 (good_all hT f1) rfl r1 r2 (hC.2.2.2.2.2.2.2.1.2 _ hl) (hC.2.2.2.2.2.1 _ f2) ⟨f4, f5, f6⟩ ⟨r3, r4⟩, hy1, hC.2.2.2.2.2.1 _ hi⟩ ⟨hP.1, hP.2⟩ rfl hn hsz hst (lv_room hw8) hdg hf) kk
theorem ra {C : String} {x : Option Nat} (hC : cx D cl tys NW Ts N1 p s m args meth c cc nL (some (.object C)) own) (hB : bd D cl N0 N1 ws s H locs) (hp : PW ws) (hdg : decode cc pc = .ok (.areturn, 1)) : W p l e R s m args below meth c H locs cells slots (MQ below (qx D cl N0 N1 (some (va_rf x)) PW) args s cells slots (ga N1)) (F0 m pc ls [va_rf x]) :=
  W.aret hC.1 hC.2.1 hC.2.2.1 (Or.inl ⟨C, rfl⟩) (by cases x with | none => exact Or.inl rfl | some a => exact Or.inr ⟨a, rfl⟩) (fun t ht _ => ⟨rfl, ⟨_, hp, by rw [ht]; exact hB.1, hB.2.1⟩, hB.2.2.F ht⟩) hB.2.2.2.2 hdg hC.2.2.2.2.2.2.1
/-- Object's constructor -/
theorem oi {index a : Nat} (hC : cx D cl tys NW Ts N1 p s m args meth c cc nL ret own) (hl : Cond.methodLink own index objectInit ∈ Ts) (hi : Cond.instanceMethod objectInit ∈ Ts) (hc : Cond.code objectInit ⟨#[0xb1]⟩ 1 none ∈ Ts) (hsz : ls.size = nL) (hdg : decode cc pc = .ok (.invokespecial index, 3)) (hf : 1 ≤ R.frames) (hlo : (rest.map fun v => v.category).sum + 12 ≤ R.locals)
    (kk : W p l e R s m args below meth c H locs cells slots Q (F0 m (pc + 3) ls rest)) : W p l e R s m args below meth c H locs cells slots Q (F0 m pc ls (.ref a :: rest)) :=
  W.objInit hC.1 hC.2.1 hC.2.2.2.2.1 (hC.2.2.2.2.2.1 _ hl) (hC.2.2.2.2.2.1 _ hi) (hC.2.2.2.2.2.1 _ hc) rfl (by rw [hC.2.2.2.1]; exact hsz) rfl hdg hf (by show 2 * 0 + _ + 12 ≤ _; omega) kk
end FW4
