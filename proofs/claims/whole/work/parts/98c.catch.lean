/-! OldLiftLaw.look outside 0 to 5: it catches and answers 1 -/
theorem dL_look_0 : decode cL_look 0 = .ok (.aload_n 2, 1) := by decide +kernel
theorem dL_look_1 : decode cL_look 1 = .ok (.iconst 0, 1) := by decide +kernel
theorem dL_look_2 : decode cL_look 2 = .ok (.aload_n 0, 1) := by decide +kernel
theorem dL_look_3 : decode cL_look 3 = .ok (.iload_n 1, 1) := by decide +kernel
theorem dL_look_4 : decode cL_look 4 = .ok (.invokevirtual 7, 3) := by decide +kernel
theorem dL_look_7 : decode cL_look 7 = .ok (.i2l, 1) := by decide +kernel
theorem dL_look_8 : decode cL_look 8 = .ok (.lastore, 1) := by decide +kernel
theorem dL_look_9 : decode cL_look 9 = .ok (.goto 6, 3) := by decide +kernel
theorem dL_look_12 : decode cL_look 12 = .ok (.astore_n 3, 1) := by decide +kernel
theorem dL_look_13 : decode cL_look 13 = .ok (.iconst 1, 1) := by decide +kernel
theorem dL_look_14 : decode cL_look 14 = .ok (.ireturn, 1) := by decide +kernel
theorem dL_look_15 : decode cL_look 15 = .ok (.iconst 0, 1) := by decide +kernel
theorem dL_look_16 : decode cL_look 16 = .ok (.ireturn, 1) := by decide +kernel
theorem same_new {s t : State} {k n : Nat} (h : s.sameButNew t [] k n) : s.heap.size ≤ t.heap.size ∧ ∀ (q : Nat) (cell : Cell), s.heap[q]? = some cell → t.heap[q]? = some cell := by
  obtain ⟨-, h1, -, -, -, h2⟩ := h
  refine ⟨h1, fun q cell hq => ?_⟩
  obtain ⟨c', a1, a2, a3, a4⟩ := h2 q cell hq
  have e : c'.slots = cell.slots := Array.ext_getElem? (fun i => a4 i (by simp))
  have e2 : c' = cell := a2.trans (by rw [e])
  rw [a1, e2]
section CVT
variable {p : Program} {l : Launch} {e : Env} {R : Room} {s : State} {m : MethodId} {args : Array Value} {below : List Frame} {meth : Method} {c : Code} {T : State} {locs : List Loc} {cells slots : Nat}
/-- a call whose callee throws, by the callee's free contract -/
theorem cl_thrown (X : Stand p l e R s m args below meth c T locs cells slots) (hexec : p.tables.exec = Jvm.exec) {own C : String} {index : Nat} {y : MethodName} {bytes : ByteArray} {maxL : Nat} {ret : Option FieldType}
    (hown : s.vm.findClass own = some m.cls) (hlink : (Cond.methodLink own index y).before args s = true) (hinst : (Cond.instanceMethod y).before args s = true) (hsel : (Cond.selects C y y).before args s = true)
    (hcode : (Cond.code y bytes maxL ret).before args s = true) (hini : (Cond.initialized y.cls).before args s = true) (hy : y.cls ≠ "java/lang/invoke/MethodHandle" ∧ y.cls ≠ "java/lang/invoke/VarHandle")
    {b : Addr} {cellB : Cell} (hcell : T.heap[b]? = some cellB) (hobj : cellB.vm.isStatics = false) (hcls : s.vm.findClass C = some cellB.cls)
    {g : JFrame} (hg : g.method = m) (hsize : g.locals.size = c.maxLocals) {argsL rest : List Value} (hlen : ∀ sig, parseMethodDescriptor y.desc = some sig → argsL.length = sig.parameters.length)
    (hstack : g.stack = argsL.reverse ++ .ref b :: rest) {wd : Nat} (hwd : 2 * g.monitorRoom + (rest.map fun v => v.category).sum ≤ wd) (hdg : decode c.code g.pc = .ok (.invokevirtual index, 3))
    {S : Spec} {Pc : Array Value → State → Prop} {Qc : Array Value → State → Outcome → State → Prop} {kc ks : Nat} (hM : MetFree l y S Pc (fun _ _ _ _ _ => True) Qc) (hfr : S.room.frames + 1 ≤ R.frames) (hlo : wd + (maxL + 11) + S.room.locals ≤ R.locals) (hce : cells + S.room.cells ≤ R.cells) (hsl : slots + S.room.slots ≤ R.slots)
    (hS : ∀ U : State, s.WarmedH U.vm → S.pre.before (Value.ref b :: argsL).toArray U = true) (hP : ∀ U : State, U.heap = T.heap → s.WarmedH U.vm → Pc (Value.ref b :: argsL).toArray U)
    (hQ : ∀ (a : Array Value) (st : State) (o : Outcome) (t : State), Qc a st o t → ∃ z, o = .threw z ∧ FramedT st o t [] kc ks) :
    ∃ (v : Addr) (st t T' : State), st.heap = T.heap ∧ s.WarmedH st.vm ∧ Qc (Value.ref b :: argsL).toArray st (.threw v) t ∧ T'.heap = t.heap ∧ Stand p l e R s m args below meth c T' (locs ++ []) (cells + kc) (slots + ks) ∧
      ∀ target, Steps p.tables e below ((T'.setTop { g with stack := rest }).pushFrame (.throwing v)) target → Steps p.tables e below (T.setTop g) target := by
  obtain ⟨mk, methM, hnamed, hmethM, hstM, habM⟩ := Cond.instanceMethod_spec hinst
  obtain ⟨methM', cM, hmethM', -, -, -, -, -, -, hsigM⟩ := Cond.code_spec hnamed hcode
  cases hmethM.symm.trans hmethM'
  obtain ⟨c2, r2, m2, q1, q2, q3, q4, kP, hkP, hkPi⟩ := Cond.selects_spec hsel
  cases hcls.symm.trans q1
  cases (State.methodFound?_of_named hnamed hy).symm.trans q2
  cases hnamed.symm.trans q3
  have hselP : selectMethod e.platform s.vm cellB.cls mk = .method mk := by rw [Launch.admits_selectMethod X.admits]; exact q4
  obtain ⟨vm₁, X₁, hstep₁⟩ := X.invokevirtual hexec hown hlink hnamed hmethM hstM hkP hkPi hy (a := b) (cell := cellB) hcell
    (fun z h => by rw [h] at hobj; cases hobj) hselP hmethM habM hkP hkPi (g := g) hg (argsL := argsL) (rest := rest) (hlen _ hsigM) hstack hdg
  subst hg
  have hn1 := X₁.named hnamed
  have hcode1 : (Cond.code y bytes maxL ret).before args (T.setVm vm₁) = true := word_at X₁.warmed (Or.inl rfl) hcode
  have hini1 : (Cond.initialized y.cls).before args (T.setVm vm₁) = true := word_at X₁.warmed (Or.inl rfl) hini
  obtain ⟨methY, cY, hmY, hcY, -, hlY, -⟩ := Cond.code_spec hn1 hcode1
  obtain ⟨kY, hkY, -⟩ := className_of_methodNamed hn1
  have hkI : kY.init = .initialized := Cond.initialized_spec (findClass_of_methodNamed hn1) hkY hini1
  have hat : At (T.setVm vm₁) ({ g with stack := rest } : JFrame).method c below := X₁.here
  have happ : S.appliesLoose y e.platform ((T.setVm vm₁).calling { g with stack := rest } mk (Value.ref b :: argsL).toArray) = true :=
    Spec.appliesLoose_calling (g := { g with stack := rest }) hat hdg hn1 hkY hkI (X₁.room_calling (g := { g with stack := rest }) (R' := S.room) hsize hmY hcY hfr (by rw [hlY]; exact Nat.le_trans (Nat.add_le_add_right (Nat.add_le_add_right hwd _) _) hlo) hce hsl) (hS _ X₁.warmed)
  obtain ⟨mid, hmid⟩ := hat.above
  have hfs : ((T.setVm vm₁).setTop { g with stack := rest }).frames = (.java { g with stack := rest } :: mid) ++ below := by rw [State.frames_setTop' _ hat.top, hmid]; rfl
  obtain ⟨o, s₂, hsteps, -, hend, hq⟩ := Steps.callFree hM p X₁.admits X₁.cas X₁.clock (acts := []) hfs happ (hP _ rfl X₁.warmed) trivial
  rw [State.frames_setTop' _ hat.top, X₁.tail] at hend
  obtain ⟨z, rfl, hfe⟩ := hQ _ _ _ _ hq
  obtain ⟨T', X', -, hsm, ht⟩ := X₁.outOfThrown (g := { g with stack := rest }) rfl hend hfe.2.1 hfe.2.2
  have hth : T'.heap = s₂.heap := by
    rw [ht]
    simp [State.pushFrame, State.setFrames, State.setTop, State.modifyTopJava]
  exact ⟨z, (T.setVm vm₁).calling { g with stack := rest } mk (Value.ref b :: argsL).toArray, s₂, T', rfl, X₁.warmed, hq, hth, X', fun target h => hstep₁ _ fun acts => by rw [doInvoke_state]; exact (ht ▸ hsteps).trans h⟩
/-- the exception is caught by the method's one handler, whose class may not have been resolved yet -/
theorem ct_here (X : Stand p l e R s m args below meth c T locs cells slots) {own name : String} (hown : s.vm.findClass own = some m.cls) {x1 : ExceptionTableEntry} (htab : c.exceptionTable.toList = [x1]) {g : JFrame} (hg : g.method = m) (hcov : covers x1 g.pc = true) (h0 : x1.catchType ≠ 0)
    (hlink : (Cond.classLink own x1.catchType name).before args s = true) {v : Addr} {ce : Cell} (hce : T.heap[v]? = some ce) (hno : ce.vm = .none) (hcl : s.vm.findClass name = some ce.cls) (hself : s.vm.assignable ce.cls ce.cls = true) :
    ∃ vm', Stand p l e R s m args below meth c (T.setVm vm') locs cells slots ∧ ∀ target, Steps p.tables e below ((T.setVm vm').setTop { g with pc := x1.handlerPc, stack := [.ref v] }) target → Steps p.tables e below ((T.setTop g).pushFrame (.throwing v)) target := by
  subst hg
  have hpl : e.platform.magicAccessors = ({} : Platform).magicAccessors := by rw [X.admits.platform]
  obtain ⟨c1, hc1, hls⟩ := Cond.classLink_spec hown hlink e.platform hpl
  cases hcl.symm.trans hc1
  obtain ⟨dk, _, _, kt, hd, _, _, _, _, hkt, _, hopen⟩ := hls.here
  have hlT := X.warmed.classLinks hls
  have hWn : s.WarmedH (T.vm.noted g.method.cls x1.catchType (.cls ce.cls)) := X.warmed.noted hd hopen (State.rightAt_cls hls)
  obtain ⟨kn, hkn, -⟩ := hWn.alike.2.2 _ _ hkt
  have hfn : (T.vm.noted g.method.cls x1.catchType (.cls ce.cls)).assignable ce.cls ce.cls = true := by rw [hWn.alike.assignable]; exact hself
  refine ⟨_, X.noted hWn, fun target hrest => ?_⟩
  have hvm : ((T.setTop g).pushFrame (.throwing v)).vm = T.vm := Stand.throwing_vm T g v
  have hhp : ((T.setTop g).pushFrame (.throwing v)).heap[v]? = some ce := by rw [Stand.throwing_heap]; exact hce
  obtain ⟨r1, r2⟩ := (resolveClass_links e.toSetting hlT).op (op := VmOp.resolveClass g.method.cls x1.catchType) rfl
  have hfind : ∀ (Q : Handler → Pre) (E : CtlPost) (d : Bool) (acts : List Action), wp (findHandler g v) Q E e d acts ((T.setTop g).pushFrame (.throwing v)) ↔ Q (.found x1.handlerPc) d acts (((T.setTop g).pushFrame (.throwing v)).setVm (T.vm.noted g.method.cls x1.catchType (.cls ce.cls))) := by
    intro Q E d acts
    rw [_root_.Jvm.W.findHandler_eq (meth := meth) (code := c) (by rw [hvm]; exact X.method') X.code, htab]
    simp only [covers] at hcov
    simp [findHandler.go, hcov, h0, hvm, r1, r2, hhp, hno, hkn, hfn, VmOp.dirties, VmOp.acts]
  generalize T.vm.noted g.method.cls x1.catchType (.cls ce.cls) = vn at hfind hrest
  obtain ⟨hgo, hw⟩ := X.here.throwing v
  refine Steps.head hgo hw ?_
  obtain ⟨g₀, hfr⟩ := X.frames_eq
  have hfr' : (T.setVm vn).frames = .java g₀ :: below := hfr
  have hstep : (stepThread p.tables e ((T.setTop g).pushFrame (.throwing v))).1 = (T.setVm vn).setTop { g with pc := x1.handlerPc, stack := [.ref v] } := by
    rw [stepThread_throwing (frames_entered X.here.top _), X.tail]
    simp only [stepThrowing, searchFrame, vmDo]
    generalize hr : Sem.go _ e false [] ((T.setTop g).pushFrame (.throwing v)) = res
    obtain ⟨as, rfl, ha⟩ := Sem.eq_ok_of hr (a := Handler.found x1.handlerPc) (s' := ((T.setTop g).pushFrame (.throwing v)).setVm vn) (acts' := []) (by simp [hfind])
    have e9 : ∀ (F G : List Frame), ((T.setFrames F).setVm vn).setFrames G = (T.setVm vn).setFrames G := fun F G => by
      have q : (T.setFrames F).setVm vn = (T.setVm vn).setFrames F := rfl
      rw [q, State.setFrames_setFrames]
    rw [State.setTop_of_frames _ hfr', State.pushFrame, State.setTop_of_frames _ hfr, State.setFrames_setFrames]
    exact e9 _ _
  rw [hstep]
  exact hrest
end CVT
