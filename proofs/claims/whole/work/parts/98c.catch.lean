/-! OldLiftLaw.look outside 0 to 5: it catches and answers 1 -/
theorem dL_look_0 : decode cL_look 0 = .ok (.aload_n 2, 1) := by decide +kernel
theorem dL_look_1 : decode cL_look 1 = .ok (.iconst 0, 1) := by decide +kernel
theorem dL_look_2 : decode cL_look 2 = .ok (.aload_n 0, 1) := by decide +kernel
theorem dL_look_3 : decode cL_look 3 = .ok (.iload_n 1, 1) := by decide +kernel
theorem dL_look_4 : decode cL_look 4 = .ok (.invokevirtual 7, 3) := by decide +kernel
theorem dL_look_7 : decode cL_look 7 = .ok (.i2l, 1) := by decide +kernel
theorem dL_look_8 : decode cL_look 8 = .ok (.lastore, 1) := by decide +kernel
theorem dL_look_9 : decode cL_look 9 = .ok (.goto 6, 3) := by decide +kernel
theorem dL_look_12 : decode cL_look 12 = .ok (.astore_n 3, 1) := by decide +kernel
theorem dL_look_13 : decode cL_look 13 = .ok (.iconst 1, 1) := by decide +kernel
theorem dL_look_14 : decode cL_look 14 = .ok (.ireturn, 1) := by decide +kernel
theorem dL_look_15 : decode cL_look 15 = .ok (.iconst 0, 1) := by decide +kernel
theorem dL_look_16 : decode cL_look 16 = .ok (.ireturn, 1) := by decide +kernel
theorem same_new {s t : State} {k n : Nat} (h : s.sameButNew t [] k n) : s.heap.size ≤ t.heap.size ∧ ∀ (q : Nat) (cell : Cell), s.heap[q]? = some cell → t.heap[q]? = some cell := by
  obtain ⟨-, h1, -, -, -, h2⟩ := h
  refine ⟨h1, fun q cell hq => ?_⟩
  obtain ⟨c', a1, a2, a3, a4⟩ := h2 q cell hq
  have e : c'.slots = cell.slots := Array.ext_getElem? (fun i => a4 i (by simp))
  have e2 : c' = cell := a2.trans (by rw [e])
  rw [a1, e2]
section CVT
variable {p : Program} {l : Launch} {e : Env} {R : Room} {s : State} {m : MethodId} {args : Array Value} {below : List Frame} {meth : Method} {c : Code} {T : State} {locs : List Loc} {cells slots : Nat}
/-- a call whose callee throws -/
theorem cl_thrown (X : Stand p l e R s m args below meth c T locs cells slots) (hexec : p.tables.exec = Jvm.exec) {own C : String} {index : Nat} {y : MethodName} {bytes : ByteArray} {maxL : Nat} {ret : Option FieldType}
    (hown : s.vm.findClass own = some m.cls) (hlink : (Cond.methodLink own index y).before args s = true) (hinst : (Cond.instanceMethod y).before args s = true) (hsel : (Cond.selects C y y).before args s = true)
    (hcode : (Cond.code y bytes maxL ret).before args s = true) (hy : y.cls ≠ "java/lang/invoke/MethodHandle" ∧ y.cls ≠ "java/lang/invoke/VarHandle")
    {W : Nat} {Pre : Pt → Array Value → Prop} {Post : Pt → Array Value → Addr → Pt → Prop} (hK : BackT l R p e below s args y 3 W Pre Post)
    {b : Addr} {cellB : Cell} (hcell : T.heap[b]? = some cellB) (hobj : cellB.vm.isStatics = false) (hcls : s.vm.findClass C = some cellB.cls)
    {g : JFrame} (hg : g.method = m) (hsize : g.locals.size = c.maxLocals) {argsL rest : List Value} (hlen : ∀ sig, parseMethodDescriptor y.desc = some sig → argsL.length = sig.parameters.length)
    (hstack : g.stack = argsL.reverse ++ .ref b :: rest) (hW : 2 * g.monitorRoom + (rest.map fun v => v.category).sum ≤ W) (hdg : decode c.code g.pc = .ok (.invokevirtual index, 3))
    (hpre : ∀ vm₁, s.WarmedH vm₁ → Pre ⟨T.setVm vm₁, locs, cells, slots⟩ (Value.ref b :: argsL).toArray) :
    ∃ (v : Addr) (vm₁ : Vm) (B : Pt), s.WarmedH vm₁ ∧ Stand p l e R s m args below meth c B.U B.locs B.cells B.slots ∧ Post ⟨T.setVm vm₁, locs, cells, slots⟩ (Value.ref b :: argsL).toArray v B ∧
      ∀ target, Steps p.tables e below ((B.U.setTop { g with stack := rest }).pushFrame (.throwing v)) target → Steps p.tables e below (T.setTop g) target := by
  obtain ⟨mk, methM, hnamed, hmethM, hstM, habM⟩ := Cond.instanceMethod_spec hinst
  obtain ⟨methM', cM, hmethM', -, -, -, -, -, -, hsigM⟩ := Cond.code_spec hnamed hcode
  cases hmethM.symm.trans hmethM'
  obtain ⟨c2, r2, m2, q1, q2, q3, q4, kP, hkP, hkPi⟩ := Cond.selects_spec hsel
  cases hcls.symm.trans q1
  cases (State.methodFound?_of_named hnamed hy).symm.trans q2
  cases hnamed.symm.trans q3
  have hselP : selectMethod e.platform s.vm cellB.cls mk = .method mk := by rw [Launch.admits_selectMethod X.admits]; exact q4
  obtain ⟨vm₁, X₁, hstep₁⟩ := X.invokevirtual hexec hown hlink hnamed hmethM hstM hkP hkPi hy (a := b) (cell := cellB) hcell
    (fun z h => by rw [h] at hobj; cases hobj) hselP hmethM habM hkP hkPi (g := g) hg (argsL := argsL) (rest := rest) (hlen _ hsigM) hstack hdg
  obtain ⟨v, B, X', hpost, hsteps⟩ := hK m meth c ⟨T.setVm vm₁, locs, cells, slots⟩ { g with stack := rest } (.invokevirtual index) mk (Value.ref b :: argsL).toArray X₁ hg hsize hdg hW (X₁.named hnamed) (hpre vm₁ X₁.warmed)
  exact ⟨v, vm₁, B, X₁.warmed, X', hpost, fun target h => hstep₁ _ fun acts => by rw [doInvoke_state]; exact hsteps.trans h⟩
end CVT
def PreT (R : Room) (b : Nat) (x : Int32) : Pt → Array Value → Prop := fun A a => A.cells + 1 ≤ R.cells ∧ A.slots + 6 ≤ R.slots ∧ a = ([.ref b, .int x] : List Value).toArray ∧ OWN A.U
def PostT : Pt → Array Value → Addr → Pt → Prop := fun A _ v B => A.U.heap.size ≤ B.U.heap.size ∧ (∀ (q : Nat) (cell : Cell), A.U.heap[q]? = some cell → B.U.heap[q]? = some cell) ∧ (∃ ce : Cell, B.U.heap[v]? = some ce ∧ A.U.vm.findClass RNS = some ce.cls ∧ ce.vm = .none ∧ A.U.vm.assignable ce.cls ce.cls = true) ∧ B.locs = A.locs ++ [] ∧ B.cells = A.cells + 1 ∧ B.slots = A.slots + 6
theorem backT_look {p : Program} {e : Env} {R : Room} {s : State} {args : Array Value} {below : List Frame} (l : Launch) (hfl : l.stackTraces = false) {x : Int32} (hx0 : wth x 0 5 = false) (b : Nat) (hbw : ∀ w ∈ BW, w.before args s = true) (hfr : 9 ≤ R.frames) (hlo : 221 ≤ R.locals) : BackT l R p e below s args yX11_look 3 8 (PreT R b x) PostT := by
  refine BackT.of_free (bytes := cX11_look) (maxL := 2) (ret := some .int) (E := fun _ _ _ _ L k n => L = [] ∧ k = 1 ∧ n = 6) (T_X11_look l hfl hx0 b) hfr hlo ?_ ?_ (fun _ _ _ _ _ _ _ _ _ => trivial) ?_ ?_
  · intro m meth c A a X hp
    have hw : ∀ w ∈ BW, w.before a A.U = true := fun w hw => word_at X.warmed (good_of_word (bw_good hw)) (hbw w hw)
    obtain ⟨m1, m2, m3, m4, m5⟩ := mk_X11_look
    refine ⟨atoms_intro fun w h => ?_, hw _ m4, hw _ m3, hp.1, hp.2.1⟩
    rcases List.mem_cons.mp h with h | h
    · rw [h]; exact hw _ m4
    · exact hw w h
  · intro m meth c A a g mk X hp
    exact ⟨hp.2.2.1, hp.2.2.2.blind⟩
  · intro a first o t h
    obtain ⟨z, ce, h1, h2, h3⟩ := h
    exact ⟨[], 1, 6, h2, rfl, rfl, rfl⟩
  · intro m meth c A a g mk v t L k n X hp hq hfe hE
    obtain ⟨rfl, rfl, rfl⟩ := hE
    obtain ⟨z, ce, h1, h2, h3, h4, h5⟩ := hq
    cases h1
    obtain ⟨g1, g2⟩ := same_new hfe.2.2
    exact ⟨g1, g2, ⟨ce, h4, h5.cls, h5.vm, h5.self⟩, rfl, rfl, rfl⟩
