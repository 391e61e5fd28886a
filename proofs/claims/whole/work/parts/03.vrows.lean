/-! links to a nest mate's private methods: words that keep, but not by themselves -/
def nwL : List (String × Nat × MethodName × String) := [(RX11, 9, yX8_init, "OldLift"), (RX5, 11, yX2_init, "OldLift"), (RX11, 27, yX4_init, "OldLift"), (RX4, 11, yX2_init, "OldLift"), (RX11, 52, yX6_init, "OldLift"), (RX6, 11, yX2_init, "OldLift"), (RX11, 75, yX7_init, "OldLift"), (RX4, 45, yX11_floorOf, "OldLift"), (RX4, 51, yX11_doorOf, "OldLift"), (RX0, 113, yX11_doorOf, "OldLift"), (RX0, 116, yX11_floorOf, "OldLift"), (RX3, 70, yX11_floorOf, "OldLift"), (RX3, 73, yX11_doorOf, "OldLift")]
def NWM (U : State) : Prop := ∀ q ∈ nwL, va_Nw (.methodLinkNest q.1 q.2.1 q.2.2.1 q.2.2.2) U
theorem NWM.warm {s U : State} (hN : NWM s) (hW : s.WarmedH U.vm) : NWM U := fun q hq => va_Nw.warmM hW (hN q hq)
/-! the two String constants: place 0 the signs, 1 the words; their cells' numbers are 1000 + i, their bytes' 2000 + i, the formatter's (if it is one) 3000 -/
def lenS : List Nat := [8, 108]
def bytS : List (List Int32) := [[40, 41, 60, 61, 43, 45, 42, 59], [114, 101, 108, 97, 121, 32, 117, 112, 32, 100, 111, 119, 110, 32, 100, 111, 111, 114, 32, 108, 97, 109, 112, 32, 110, 101, 118, 101, 114, 32, 110, 111, 116, 32, 97, 110, 100, 32, 111, 114, 32, 99, 97, 108, 108, 32, 97, 116, 32, 111, 112, 101, 110, 32, 97, 110, 121, 32, 102, 97, 114, 32, 108, 111, 97, 100, 32, 115, 116, 111, 112, 115, 32, 116, 111, 119, 97, 114, 100, 32, 105, 100, 108, 101, 32, 102, 108, 111, 111, 114, 32, 102, 114, 111, 109, 32, 116, 111, 32, 99, 97, 114, 32, 116, 105, 109, 101, 32]]
def STR (nh : Nat) (ad : Nat → Nat) (s : State) : Prop := vk_S 2 lenS bytS (fun i => ad (1000 + i)) (fun i => ad (2000 + i)) (AD nh ad s.heap.size) s s.heap ∧ vk_R RX9 57 "()<=+-*;" (ad 1000) s ∧ vk_R RX9 67 "relay up down door lamp never not and or call at open any far load stops toward idle floor from to car time " (ad 1001) s ∧ va_Z "java/lang/String" "COMPACT_STRINGS" "Z" (.int 1) (AD nh ad s.heap.size) s s.heap ∧ (va_Z "jdk/internal/util/Preconditions" "SIOOBE_FORMATTER" "Ljava/util/function/BiFunction;" .null (AD nh ad s.heap.size) s s.heap ∨ va_Z "jdk/internal/util/Preconditions" "SIOOBE_FORMATTER" "Ljava/util/function/BiFunction;" (.ref (ad 3000)) (AD nh ad s.heap.size) s s.heap)
theorem AD_le {nh : Nat} {ad : Nat → Nat} {a b : Nat} (h : a ≤ b) : ∀ q, AD nh ad b q → AD nh ad a q := fun q hq => hq.elim Or.inl (fun z => Or.inr (Nat.le_trans h z))
theorem STR.move {nh : Nat} {ad : Nat → Nat} {s U : State} {H : Heap} {locs : List Loc} (h : STR nh ad s) (hS : va_S (AD nh ad s.heap.size) s.heap H locs) (hU : U.heap = H) (hW : s.WarmedH U.vm) : STR nh ad U := by
  obtain ⟨h1, h2, h3, h4, h5⟩ := h
  subst hU
  have hn := AD_le (nh := nh) (ad := ad) hS.1
  have hq : ∀ a : Nat, a < s.heap.size → ¬ AD nh ad s.heap.size a → U.heap[a]? = s.heap[a]? := hS.2.1
  refine ⟨((h1.moved hW.alike).kept hq).narrow hn, h2.warm hW, h3.warm hW, ((h4.moved hW.alike).kept hq).narrow hn, ?_⟩
  rcases h5 with h5 | h5
  · exact Or.inl (((h5.moved hW.alike).kept hq).narrow hn)
  · exact Or.inr (((h5.moved hW.alike).kept hq).narrow hn)
theorem STR.blind {nh : Nat} {ad : Nat → Nat} {U : State} {g : JFrame} {mk : MethodId} {a : Array Value} (h : STR nh ad U) : STR nh ad (U.calling g mk a) := by
  obtain ⟨h1, h2, h3, h4, h5⟩ := h
  refine ⟨h1.moved (U := U.calling g mk a) (Vm.Alike.refl U.vm), h2.same (U := U.calling g mk a) rfl, h3.same (U := U.calling g mk a) rfl, h4.moved (U := U.calling g mk a) (Vm.Alike.refl U.vm), ?_⟩
  rcases h5 with h5 | h5
  · exact Or.inl (h5.moved (U := U.calling g mk a) (Vm.Alike.refl U.vm))
  · exact Or.inr (h5.moved (U := U.calling g mk a) (Vm.Alike.refl U.vm))
abbrev EV : Type := Launch × va_G × (Nat → Nat) × (Nat → ClassId) × Nat
abbrev CT : Type := Program × Env × Room × State × MethodId × Array Value × List Frame × Method × Code × EV
def xE (X : CT) : EV := X.2.2.2.2.2.2.2.2.2
/-- the machine, now at pc with these locals and this stack (references are cells' numbers), the cells holding h, comes to a state with Q -/
def V (X : CT) (Q : State → Prop) (h : PH) (pc : Nat) (lv : List (Option Value)) (st : List Value) : Prop := match X with
  | (p, e, R, s, m, args, below, meth, c, l, D, ad, cA, nh) => ∀ (H : Heap) (locs : List Loc) (ls : Array Slot), va_P D vwCl (WD nh ad cA h) H → va_S (AD nh ad s.heap.size) s.heap H locs → LV ad ls c.maxLocals lv → W p l e R s m args below meth c H locs 0 0 Q (F0 m pc ls (st.map (tr ad)))
/-- what stands fast in a method's body -/
def CX (X : CT) (B : Nat) (cc : ByteArray) (nL : Nat) (own : String) (ret : Option FieldType) (fr lo : Nat) : Prop := match X with
  | (p, e, R, s, m, args, below, meth, c, l, D, ad, cA, nh) => p.tables.exec = Jvm.exec ∧ c.code = cc ∧ c.maxLocals = nL ∧ s.vm.findClass own = some m.cls ∧ (∀ w ∈ BW, w.before args s = true) ∧ meth.sig.returnType = ret ∧ meth.locks = false ∧ va_K D vwCl (TY cA) s ∧ INJ nh ad ∧ (NWM s ∧ STR nh ad s) ∧ fr ≤ R.frames ∧ lo ≤ R.locals ∧ B ≤ nh
def FK (B k ci j q : Nat) : Prop := k < B ∧ ∃ fl, sh k = .inl (ci, fl) ∧ fl[j]? = some q
def AK (B k t n b : Nat) : Prop := k < B ∧ sh k = .inr (t, n, b)
def OK (B k ci : Nat) : Prop := k < B ∧ ∃ fl, sh k = .inl (ci, fl)
theorem FK.ok {B k ci j q : Nat} (h : FK B k ci j q) : OK B k ci := ⟨h.1, h.2.choose, h.2.choose_spec.1⟩
def LKF (own : String) (i ci j : Nat) (ty : FieldType) (fin : Bool) : Prop := ∃ (C : String) (T : u_T) (N : Nat) (tyf : Nat → FieldType), vwCl[ci]? = some (C, T, N) ∧ j < N ∧ Cond.fieldLink own i C (T j).2.1 (T j).2.2.1 ∈ BW ∧ (∀ w ∈ u_ws C T N, w ∈ BW) ∧ (∀ k, k < N → parseFieldDescriptor (T k).2.2.1 = some (tyf k)) ∧ (∀ a, a < N → ∀ b, b < N → a ≠ b → (T a).2.1 ≠ (T b).2.1) ∧ (T j).1 = C ∧ tyf j = ty ∧ (T j).2.2.2 = fin
theorem V_weak {X : CT} {Q : State → Prop} {h : PH} {pc : Nat} {lv lv' : List (Option Value)} {st : List Value} (hl : lvle lv' lv) (k : V X Q h pc lv' st) : V X Q h pc lv st := by
  obtain ⟨p, e, R, s, m, args, below, meth, c, l, D, ad, cA, nh⟩ := X
  intro H locs ls hP hS hl'
  exact k H locs ls hP hS (hl'.weak hl)
section VV
variable {X : CT} {B : Nat} {cc : ByteArray} {nL : Nat} {own : String} {ret : Option FieldType} {fr lo : Nat} {Q : State → Prop} {h : PH} {pc : Nat} {lv : List (Option Value)} {st : List Value}
theorem V_iconst (C : CX X B cc nL own ret fr lo) {n : Int} {v : Int32} (d : decode cc pc = .ok (.iconst n, 1)) (hv : Int32.ofInt n = v) (k : V X Q h (pc + 1) lv (.int v :: st)) : V X Q h pc lv (st) := by
  obtain ⟨p, e, R, s, m, args, below, meth, c, l, D, ad, cA, nh⟩ := X
  obtain ⟨hx, hb, hml, hown, hts, hret, hlocks, hK, hI, hN, hfr, hlo, hB⟩ := C
  intro H locs ls hP hS hl
  exact lv_iconst hx hb d hv (k H locs ls hP hS hl)
theorem V_bipush (C : CX X B cc nL own ret fr lo) {n : Int} {v : Int32} (d : decode cc pc = .ok (.bipush n, 2)) (hv : (Int8.ofInt n).toInt32 = v) (k : V X Q h (pc + 2) lv (.int v :: st)) : V X Q h pc lv (st) := by
  obtain ⟨p, e, R, s, m, args, below, meth, c, l, D, ad, cA, nh⟩ := X
  obtain ⟨hx, hb, hml, hown, hts, hret, hlocks, hK, hI, hN, hfr, hlo, hB⟩ := C
  intro H locs ls hP hS hl
  exact lv_bipush hx hb d hv (k H locs ls hP hS hl)
theorem V_sipush (C : CX X B cc nL own ret fr lo) {n : Int} {v : Int32} (d : decode cc pc = .ok (.sipush n, 3)) (hv : (Int16.ofInt n).toInt32 = v) (k : V X Q h (pc + 3) lv (.int v :: st)) : V X Q h pc lv (st) := by
  obtain ⟨p, e, R, s, m, args, below, meth, c, l, D, ad, cA, nh⟩ := X
  obtain ⟨hx, hb, hml, hown, hts, hret, hlocks, hK, hI, hN, hfr, hlo, hB⟩ := C
  intro H locs ls hP hS hl
  exact lv_sipush hx hb d hv (k H locs ls hP hS hl)
theorem V_lconst (C : CX X B cc nL own ret fr lo) {n : Fin 2} {v : Int64} (d : decode cc pc = .ok (.lconst n, 1)) (hv : Int64.ofNat (n : Nat) = v) (k : V X Q h (pc + 1) lv (.long v :: st)) : V X Q h pc lv (st) := by
  obtain ⟨p, e, R, s, m, args, below, meth, c, l, D, ad, cA, nh⟩ := X
  obtain ⟨hx, hb, hml, hown, hts, hret, hlocks, hK, hI, hN, hfr, hlo, hB⟩ := C
  intro H locs ls hP hS hl
  exact lv_lconst hx hb d hv (k H locs ls hP hS hl)
theorem V_ldc (C : CX X B cc nL own ret fr lo) {i : Nat} {v : Int32} (d : decode cc pc = .ok (.ldc i, 2)) (hc : Jvm.Cond.constant own i v ∈ BW) (k : V X Q h (pc + 2) lv (.int v :: st)) : V X Q h pc lv (st) := by
  obtain ⟨p, e, R, s, m, args, below, meth, c, l, D, ad, cA, nh⟩ := X
  obtain ⟨hx, hb, hml, hown, hts, hret, hlocks, hK, hI, hN, hfr, hlo, hB⟩ := C
  intro H locs ls hP hS hl
  exact lv_ldc hx hb hown (hts _ hc) d (k H locs ls hP hS hl)
theorem V_ldcw (C : CX X B cc nL own ret fr lo) {i : Nat} {v : Int32} (d : decode cc pc = .ok (.ldc_w i, 3)) (hc : Jvm.Cond.constant own i v ∈ BW) (k : V X Q h (pc + 3) lv (.int v :: st)) : V X Q h pc lv (st) := by
  obtain ⟨p, e, R, s, m, args, below, meth, c, l, D, ad, cA, nh⟩ := X
  obtain ⟨hx, hb, hml, hown, hts, hret, hlocks, hK, hI, hN, hfr, hlo, hB⟩ := C
  intro H locs ls hP hS hl
  exact lv_ldcw hx hb hown (hts _ hc) d (k H locs ls hP hS hl)
theorem V_ldc2 (C : CX X B cc nL own ret fr lo) {i : Nat} {v : Int64} (d : decode cc pc = .ok (.ldc2_w i, 3)) (hc : Jvm.Cond.constantLong own i v ∈ BW) (k : V X Q h (pc + 3) lv (.long v :: st)) : V X Q h pc lv (st) := by
  obtain ⟨p, e, R, s, m, args, below, meth, c, l, D, ad, cA, nh⟩ := X
  obtain ⟨hx, hb, hml, hown, hts, hret, hlocks, hK, hI, hN, hfr, hlo, hB⟩ := C
  intro H locs ls hP hS hl
  exact lv_ldc2 hx hb hown (hts _ hc) d (k H locs ls hP hS hl)
theorem V_iload_n (C : CX X B cc nL own ret fr lo) {j : Fin 4} {x : Int32} (d : decode cc pc = .ok (.iload_n j, 1)) (hv : lv[(j : Nat)]? = some (some (.int x))) (k : V X Q h (pc + 1) lv (.int x :: st)) : V X Q h pc lv (st) := by
  obtain ⟨p, e, R, s, m, args, below, meth, c, l, D, ad, cA, nh⟩ := X
  obtain ⟨hx, hb, hml, hown, hts, hret, hlocks, hK, hI, hN, hfr, hlo, hB⟩ := C
  intro H locs ls hP hS hl
  exact lv_iload_n hx hb d rfl (hl.2.2 _ _ hv) (k H locs ls hP hS hl)
theorem V_iload (C : CX X B cc nL own ret fr lo) {i : Nat} {x : Int32} (d : decode cc pc = .ok (.iload i, 2)) (hv : lv[i]? = some (some (.int x))) (k : V X Q h (pc + 2) lv (.int x :: st)) : V X Q h pc lv (st) := by
  obtain ⟨p, e, R, s, m, args, below, meth, c, l, D, ad, cA, nh⟩ := X
  obtain ⟨hx, hb, hml, hown, hts, hret, hlocks, hK, hI, hN, hfr, hlo, hB⟩ := C
  intro H locs ls hP hS hl
  exact lv_iload hx hb d (hl.2.2 _ _ hv) (k H locs ls hP hS hl)
theorem V_lload_n (C : CX X B cc nL own ret fr lo) {j : Fin 4} {x : Int64} (d : decode cc pc = .ok (.lload_n j, 1)) (hv : lv[(j : Nat)]? = some (some (.long x))) (k : V X Q h (pc + 1) lv (.long x :: st)) : V X Q h pc lv (st) := by
  obtain ⟨p, e, R, s, m, args, below, meth, c, l, D, ad, cA, nh⟩ := X
  obtain ⟨hx, hb, hml, hown, hts, hret, hlocks, hK, hI, hN, hfr, hlo, hB⟩ := C
  intro H locs ls hP hS hl
  exact lv_lload_n hx hb d rfl (hl.2.2 _ _ hv) (k H locs ls hP hS hl)
theorem V_lload (C : CX X B cc nL own ret fr lo) {i : Nat} {x : Int64} (d : decode cc pc = .ok (.lload i, 2)) (hv : lv[i]? = some (some (.long x))) (k : V X Q h (pc + 2) lv (.long x :: st)) : V X Q h pc lv (st) := by
  obtain ⟨p, e, R, s, m, args, below, meth, c, l, D, ad, cA, nh⟩ := X
  obtain ⟨hx, hb, hml, hown, hts, hret, hlocks, hK, hI, hN, hfr, hlo, hB⟩ := C
  intro H locs ls hP hS hl
  exact lv_lload hx hb d (hl.2.2 _ _ hv) (k H locs ls hP hS hl)
theorem V_aload_n (C : CX X B cc nL own ret fr lo) {j : Fin 4} {x : Nat} (d : decode cc pc = .ok (.aload_n j, 1)) (hv : lv[(j : Nat)]? = some (some (.ref x))) (k : V X Q h (pc + 1) lv (.ref x :: st)) : V X Q h pc lv (st) := by
  obtain ⟨p, e, R, s, m, args, below, meth, c, l, D, ad, cA, nh⟩ := X
  obtain ⟨hx, hb, hml, hown, hts, hret, hlocks, hK, hI, hN, hfr, hlo, hB⟩ := C
  intro H locs ls hP hS hl
  exact lv_aload_n hx hb d rfl (hl.2.2 _ _ hv) (k H locs ls hP hS hl)
theorem V_aload (C : CX X B cc nL own ret fr lo) {i : Nat} {x : Nat} (d : decode cc pc = .ok (.aload i, 2)) (hv : lv[i]? = some (some (.ref x))) (k : V X Q h (pc + 2) lv (.ref x :: st)) : V X Q h pc lv (st) := by
  obtain ⟨p, e, R, s, m, args, below, meth, c, l, D, ad, cA, nh⟩ := X
  obtain ⟨hx, hb, hml, hown, hts, hret, hlocks, hK, hI, hN, hfr, hlo, hB⟩ := C
  intro H locs ls hP hS hl
  exact lv_aload hx hb d (hl.2.2 _ _ hv) (k H locs ls hP hS hl)
theorem V_istore_n (C : CX X B cc nL own ret fr lo) {j : Fin 4} {x : Int32} (d : decode cc pc = .ok (.istore_n j, 1)) (hn : (j : Nat) < nL) (ho : okst lv j = true) (k : V X Q h (pc + 1) (lv.set (j : Nat) (some (.int x))) st) : V X Q h pc lv (.int x :: st) := by
  obtain ⟨p, e, R, s, m, args, below, meth, c, l, D, ad, cA, nh⟩ := X
  obtain ⟨hx, hb, hml, hown, hts, hret, hlocks, hK, hI, hN, hfr, hlo, hB⟩ := C
  intro H locs ls hP hS hl
  exact lv_istore_n hx hb d rfl hl.has (by rw [hml]; exact hn) rfl (fun ls2 h2 => k H locs ls2 hP hS (LV.st1 (v := .int x) ho h2))
theorem V_istore (C : CX X B cc nL own ret fr lo) {i : Nat} {x : Int32} (d : decode cc pc = .ok (.istore i, 2)) (hn : i < nL) (ho : okst lv i = true) (k : V X Q h (pc + 2) (lv.set i (some (.int x))) st) : V X Q h pc lv (.int x :: st) := by
  obtain ⟨p, e, R, s, m, args, below, meth, c, l, D, ad, cA, nh⟩ := X
  obtain ⟨hx, hb, hml, hown, hts, hret, hlocks, hK, hI, hN, hfr, hlo, hB⟩ := C
  intro H locs ls hP hS hl
  exact lv_istore hx hb d hl.has (by rw [hml]; exact hn) rfl (fun ls2 h2 => k H locs ls2 hP hS (LV.st1 (v := .int x) ho h2))
theorem V_astore_n (C : CX X B cc nL own ret fr lo) {j : Fin 4} {x : Nat} (d : decode cc pc = .ok (.astore_n j, 1)) (hn : (j : Nat) < nL) (ho : okst lv j = true) (k : V X Q h (pc + 1) (lv.set (j : Nat) (some (.ref x))) st) : V X Q h pc lv (.ref x :: st) := by
  obtain ⟨p, e, R, s, m, args, below, meth, c, l, D, ad, cA, nh⟩ := X
  obtain ⟨hx, hb, hml, hown, hts, hret, hlocks, hK, hI, hN, hfr, hlo, hB⟩ := C
  intro H locs ls hP hS hl
  exact lv_astore_n hx hb d rfl hl.has (by rw [hml]; exact hn) rfl (fun ls2 h2 => k H locs ls2 hP hS (LV.st1 (v := .ref x) ho h2))
theorem V_astore (C : CX X B cc nL own ret fr lo) {i : Nat} {x : Nat} (d : decode cc pc = .ok (.astore i, 2)) (hn : i < nL) (ho : okst lv i = true) (k : V X Q h (pc + 2) (lv.set i (some (.ref x))) st) : V X Q h pc lv (.ref x :: st) := by
  obtain ⟨p, e, R, s, m, args, below, meth, c, l, D, ad, cA, nh⟩ := X
  obtain ⟨hx, hb, hml, hown, hts, hret, hlocks, hK, hI, hN, hfr, hlo, hB⟩ := C
  intro H locs ls hP hS hl
  exact lv_astore hx hb d hl.has (by rw [hml]; exact hn) rfl (fun ls2 h2 => k H locs ls2 hP hS (LV.st1 (v := .ref x) ho h2))
theorem V_lstore (C : CX X B cc nL own ret fr lo) {i : Nat} {x : Int64} (d : decode cc pc = .ok (.lstore i, 2)) (hn : i + 1 < nL) (ho : okst lv i = true) (k : V X Q h (pc + 2) ((lv.set i (some (.long x))).set (i + 1) none) st) : V X Q h pc lv (.long x :: st) := by
  obtain ⟨p, e, R, s, m, args, below, meth, c, l, D, ad, cA, nh⟩ := X
  obtain ⟨hx, hb, hml, hown, hts, hret, hlocks, hK, hI, hN, hfr, hlo, hB⟩ := C
  intro H locs ls hP hS hl
  exact lv_lstore hx hb d hl.has (by rw [hml]; exact hn) rfl (fun ls2 h2 => k H locs ls2 hP hS (LV.st2 (v := .long x) ho h2))
theorem V_lstore_n (C : CX X B cc nL own ret fr lo) {j : Fin 4} {x : Int64} (d : decode cc pc = .ok (.lstore_n j, 1)) (hn : (j : Nat) + 1 < nL) (ho : okst lv j = true) (k : V X Q h (pc + 1) ((lv.set (j : Nat) (some (.long x))).set ((j : Nat) + 1) none) st) : V X Q h pc lv (.long x :: st) := by
  obtain ⟨p, e, R, s, m, args, below, meth, c, l, D, ad, cA, nh⟩ := X
  obtain ⟨hx, hb, hml, hown, hts, hret, hlocks, hK, hI, hN, hfr, hlo, hB⟩ := C
  intro H locs ls hP hS hl
  exact lv_lstore_n hx hb d rfl hl.has (by rw [hml]; exact hn) rfl (fun ls2 h2 => k H locs ls2 hP hS (LV.st2 (v := .long x) ho h2))
theorem V_iinc (C : CX X B cc nL own ret fr lo) {i : Nat} {n : Int} {x v : Int32} (d : decode cc pc = .ok (.iinc i n, 3)) (hx0 : lv[i]? = some (some (.int x))) (hv : x + Int32.ofInt n = v) (hn : i < nL) (ho : okst lv i = true) (k : V X Q h (pc + 3) (lv.set i (some (.int v))) st) : V X Q h pc lv st := by
  obtain ⟨p, e, R, s, m, args, below, meth, c, l, D, ad, cA, nh⟩ := X
  obtain ⟨hx, hb, hml, hown, hts, hret, hlocks, hK, hI, hN, hfr, hlo, hB⟩ := C
  intro H locs ls hP hS hl
  obtain ⟨kk, hkk⟩ := List.getElem?_of_mem (prs_mem (ad := ad) (q := (i, .int x)).mpr ⟨.int x, hx0, rfl⟩)
  exact lv_iinc hx hb d hl.has hkk hv (by rw [hml]; exact hn) rfl (fun ls2 h2 => k H locs ls2 hP hS (LV.st1 (v := .int v) ho h2))
theorem V_iadd (C : CX X B cc nL own ret fr lo) {x y : Int32} (d : decode cc pc = .ok (.iadd, 1)) (k : V X Q h (pc + 1) lv (.int (x + y) :: st)) : V X Q h pc lv (.int y :: .int x :: st) := by
  obtain ⟨p, e, R, s, m, args, below, meth, c, l, D, ad, cA, nh⟩ := X
  obtain ⟨hx, hb, hml, hown, hts, hret, hlocks, hK, hI, hN, hfr, hlo, hB⟩ := C
  intro H locs ls hP hS hl
  exact lv_iadd hx hb d (k H locs ls hP hS hl)
theorem V_isub (C : CX X B cc nL own ret fr lo) {x y : Int32} (d : decode cc pc = .ok (.isub, 1)) (k : V X Q h (pc + 1) lv (.int (x - y) :: st)) : V X Q h pc lv (.int y :: .int x :: st) := by
  obtain ⟨p, e, R, s, m, args, below, meth, c, l, D, ad, cA, nh⟩ := X
  obtain ⟨hx, hb, hml, hown, hts, hret, hlocks, hK, hI, hN, hfr, hlo, hB⟩ := C
  intro H locs ls hP hS hl
  exact lv_isub hx hb d (k H locs ls hP hS hl)
theorem V_imul (C : CX X B cc nL own ret fr lo) {x y : Int32} (d : decode cc pc = .ok (.imul, 1)) (k : V X Q h (pc + 1) lv (.int (x * y) :: st)) : V X Q h pc lv (.int y :: .int x :: st) := by
  obtain ⟨p, e, R, s, m, args, below, meth, c, l, D, ad, cA, nh⟩ := X
  obtain ⟨hx, hb, hml, hown, hts, hret, hlocks, hK, hI, hN, hfr, hlo, hB⟩ := C
  intro H locs ls hP hS hl
  exact lv_imul hx hb d (k H locs ls hP hS hl)
theorem V_iand (C : CX X B cc nL own ret fr lo) {x y : Int32} (d : decode cc pc = .ok (.iand, 1)) (k : V X Q h (pc + 1) lv (.int (x &&& y) :: st)) : V X Q h pc lv (.int y :: .int x :: st) := by
  obtain ⟨p, e, R, s, m, args, below, meth, c, l, D, ad, cA, nh⟩ := X
  obtain ⟨hx, hb, hml, hown, hts, hret, hlocks, hK, hI, hN, hfr, hlo, hB⟩ := C
  intro H locs ls hP hS hl
  exact lv_iand hx hb d (k H locs ls hP hS hl)
theorem V_ior (C : CX X B cc nL own ret fr lo) {x y : Int32} (d : decode cc pc = .ok (.ior, 1)) (k : V X Q h (pc + 1) lv (.int (x ||| y) :: st)) : V X Q h pc lv (.int y :: .int x :: st) := by
  obtain ⟨p, e, R, s, m, args, below, meth, c, l, D, ad, cA, nh⟩ := X
  obtain ⟨hx, hb, hml, hown, hts, hret, hlocks, hK, hI, hN, hfr, hlo, hB⟩ := C
  intro H locs ls hP hS hl
  exact lv_ior hx hb d (k H locs ls hP hS hl)
theorem V_ixor (C : CX X B cc nL own ret fr lo) {x y : Int32} (d : decode cc pc = .ok (.ixor, 1)) (k : V X Q h (pc + 1) lv (.int (x ^^^ y) :: st)) : V X Q h pc lv (.int y :: .int x :: st) := by
  obtain ⟨p, e, R, s, m, args, below, meth, c, l, D, ad, cA, nh⟩ := X
  obtain ⟨hx, hb, hml, hown, hts, hret, hlocks, hK, hI, hN, hfr, hlo, hB⟩ := C
  intro H locs ls hP hS hl
  exact lv_ixor hx hb d (k H locs ls hP hS hl)
theorem V_ishl (C : CX X B cc nL own ret fr lo) {x y : Int32} (d : decode cc pc = .ok (.ishl, 1)) (k : V X Q h (pc + 1) lv (.int (x <<< (y &&& 31)) :: st)) : V X Q h pc lv (.int y :: .int x :: st) := by
  obtain ⟨p, e, R, s, m, args, below, meth, c, l, D, ad, cA, nh⟩ := X
  obtain ⟨hx, hb, hml, hown, hts, hret, hlocks, hK, hI, hN, hfr, hlo, hB⟩ := C
  intro H locs ls hP hS hl
  exact lv_ishl hx hb d (k H locs ls hP hS hl)
theorem V_ishr (C : CX X B cc nL own ret fr lo) {x y : Int32} (d : decode cc pc = .ok (.ishr, 1)) (k : V X Q h (pc + 1) lv (.int (x >>> (y &&& 31)) :: st)) : V X Q h pc lv (.int y :: .int x :: st) := by
  obtain ⟨p, e, R, s, m, args, below, meth, c, l, D, ad, cA, nh⟩ := X
  obtain ⟨hx, hb, hml, hown, hts, hret, hlocks, hK, hI, hN, hfr, hlo, hB⟩ := C
  intro H locs ls hP hS hl
  exact lv_ishr hx hb d (k H locs ls hP hS hl)
theorem V_idiv (C : CX X B cc nL own ret fr lo) {x y : Int32} (d : decode cc pc = .ok (.idiv, 1)) (hne : ¬ y = 0) (k : V X Q h (pc + 1) lv (.int (x / y) :: st)) : V X Q h pc lv (.int y :: .int x :: st) := by
  obtain ⟨p, e, R, s, m, args, below, meth, c, l, D, ad, cA, nh⟩ := X
  obtain ⟨hx, hb, hml, hown, hts, hret, hlocks, hK, hI, hN, hfr, hlo, hB⟩ := C
  intro H locs ls hP hS hl
  exact lv_idiv hx hb d hne (k H locs ls hP hS hl)
theorem V_irem (C : CX X B cc nL own ret fr lo) {x y : Int32} (d : decode cc pc = .ok (.irem, 1)) (hne : ¬ y = 0) (k : V X Q h (pc + 1) lv (.int (x - x / y * y) :: st)) : V X Q h pc lv (.int y :: .int x :: st) := by
  obtain ⟨p, e, R, s, m, args, below, meth, c, l, D, ad, cA, nh⟩ := X
  obtain ⟨hx, hb, hml, hown, hts, hret, hlocks, hK, hI, hN, hfr, hlo, hB⟩ := C
  intro H locs ls hP hS hl
  exact lv_irem hx hb d hne (k H locs ls hP hS hl)
theorem V_iushr (C : CX X B cc nL own ret fr lo) {x y : Int32} (d : decode cc pc = .ok (.iushr, 1)) (k : V X Q h (pc + 1) lv (.int ((x.toUInt32 >>> (y.toUInt32 &&& Int32.toUInt32 31)).toInt32) :: st)) : V X Q h pc lv (.int y :: .int x :: st) := by
  obtain ⟨p, e, R, s, m, args, below, meth, c, l, D, ad, cA, nh⟩ := X
  obtain ⟨hx, hb, hml, hown, hts, hret, hlocks, hK, hI, hN, hfr, hlo, hB⟩ := C
  intro H locs ls hP hS hl
  exact lv_iushr hx hb d rfl (k H locs ls hP hS hl)
theorem V_ineg (C : CX X B cc nL own ret fr lo) {x : Int32} (d : decode cc pc = .ok (.ineg, 1)) (k : V X Q h (pc + 1) lv (.int (-x) :: st)) : V X Q h pc lv (.int x :: st) := by
  obtain ⟨p, e, R, s, m, args, below, meth, c, l, D, ad, cA, nh⟩ := X
  obtain ⟨hx, hb, hml, hown, hts, hret, hlocks, hK, hI, hN, hfr, hlo, hB⟩ := C
  intro H locs ls hP hS hl
  exact lv_ineg hx hb d (k H locs ls hP hS hl)
theorem V_ladd (C : CX X B cc nL own ret fr lo) {x y : Int64} (d : decode cc pc = .ok (.ladd, 1)) (k : V X Q h (pc + 1) lv (.long (x + y) :: st)) : V X Q h pc lv (.long y :: .long x :: st) := by
  obtain ⟨p, e, R, s, m, args, below, meth, c, l, D, ad, cA, nh⟩ := X
  obtain ⟨hx, hb, hml, hown, hts, hret, hlocks, hK, hI, hN, hfr, hlo, hB⟩ := C
  intro H locs ls hP hS hl
  exact lv_ladd hx hb d (k H locs ls hP hS hl)
theorem V_lsub (C : CX X B cc nL own ret fr lo) {x y : Int64} (d : decode cc pc = .ok (.lsub, 1)) (k : V X Q h (pc + 1) lv (.long (x - y) :: st)) : V X Q h pc lv (.long y :: .long x :: st) := by
  obtain ⟨p, e, R, s, m, args, below, meth, c, l, D, ad, cA, nh⟩ := X
  obtain ⟨hx, hb, hml, hown, hts, hret, hlocks, hK, hI, hN, hfr, hlo, hB⟩ := C
  intro H locs ls hP hS hl
  exact lv_lsub hx hb d (k H locs ls hP hS hl)
theorem V_lmul (C : CX X B cc nL own ret fr lo) {x y : Int64} (d : decode cc pc = .ok (.lmul, 1)) (k : V X Q h (pc + 1) lv (.long (x * y) :: st)) : V X Q h pc lv (.long y :: .long x :: st) := by
  obtain ⟨p, e, R, s, m, args, below, meth, c, l, D, ad, cA, nh⟩ := X
  obtain ⟨hx, hb, hml, hown, hts, hret, hlocks, hK, hI, hN, hfr, hlo, hB⟩ := C
  intro H locs ls hP hS hl
  exact lv_lmul hx hb d (k H locs ls hP hS hl)
theorem V_land (C : CX X B cc nL own ret fr lo) {x y : Int64} (d : decode cc pc = .ok (.land, 1)) (k : V X Q h (pc + 1) lv (.long (x &&& y) :: st)) : V X Q h pc lv (.long y :: .long x :: st) := by
  obtain ⟨p, e, R, s, m, args, below, meth, c, l, D, ad, cA, nh⟩ := X
  obtain ⟨hx, hb, hml, hown, hts, hret, hlocks, hK, hI, hN, hfr, hlo, hB⟩ := C
  intro H locs ls hP hS hl
  exact lv_land hx hb d (k H locs ls hP hS hl)
theorem V_lor (C : CX X B cc nL own ret fr lo) {x y : Int64} (d : decode cc pc = .ok (.lor, 1)) (k : V X Q h (pc + 1) lv (.long (x ||| y) :: st)) : V X Q h pc lv (.long y :: .long x :: st) := by
  obtain ⟨p, e, R, s, m, args, below, meth, c, l, D, ad, cA, nh⟩ := X
  obtain ⟨hx, hb, hml, hown, hts, hret, hlocks, hK, hI, hN, hfr, hlo, hB⟩ := C
  intro H locs ls hP hS hl
  exact lv_lor hx hb d (k H locs ls hP hS hl)
theorem V_lxor (C : CX X B cc nL own ret fr lo) {x y : Int64} (d : decode cc pc = .ok (.lxor, 1)) (k : V X Q h (pc + 1) lv (.long (x ^^^ y) :: st)) : V X Q h pc lv (.long y :: .long x :: st) := by
  obtain ⟨p, e, R, s, m, args, below, meth, c, l, D, ad, cA, nh⟩ := X
  obtain ⟨hx, hb, hml, hown, hts, hret, hlocks, hK, hI, hN, hfr, hlo, hB⟩ := C
  intro H locs ls hP hS hl
  exact lv_lxor hx hb d (k H locs ls hP hS hl)
theorem V_ldiv (C : CX X B cc nL own ret fr lo) {x y : Int64} (d : decode cc pc = .ok (.ldiv, 1)) (hne : ¬ y = 0) (k : V X Q h (pc + 1) lv (.long (x / y) :: st)) : V X Q h pc lv (.long y :: .long x :: st) := by
  obtain ⟨p, e, R, s, m, args, below, meth, c, l, D, ad, cA, nh⟩ := X
  obtain ⟨hx, hb, hml, hown, hts, hret, hlocks, hK, hI, hN, hfr, hlo, hB⟩ := C
  intro H locs ls hP hS hl
  exact lv_ldiv hx hb d hne (k H locs ls hP hS hl)
theorem V_lcmp (C : CX X B cc nL own ret fr lo) {x y : Int64} (d : decode cc pc = .ok (.lcmp, 1)) (k : V X Q h (pc + 1) lv (.int (lg_cmp x y) :: st)) : V X Q h pc lv (.long y :: .long x :: st) := by
  obtain ⟨p, e, R, s, m, args, below, meth, c, l, D, ad, cA, nh⟩ := X
  obtain ⟨hx, hb, hml, hown, hts, hret, hlocks, hK, hI, hN, hfr, hlo, hB⟩ := C
  intro H locs ls hP hS hl
  exact W.lcmp hx hb d (k H locs ls hP hS hl)
theorem V_lshl (C : CX X B cc nL own ret fr lo) {x : Int64} {y : Int32} (d : decode cc pc = .ok (.lshl, 1)) (k : V X Q h (pc + 1) lv (.long (x <<< (y.toInt64 &&& 63)) :: st)) : V X Q h pc lv (.int y :: .long x :: st) := by
  obtain ⟨p, e, R, s, m, args, below, meth, c, l, D, ad, cA, nh⟩ := X
  obtain ⟨hx, hb, hml, hown, hts, hret, hlocks, hK, hI, hN, hfr, hlo, hB⟩ := C
  intro H locs ls hP hS hl
  exact lv_lshl hx hb d rfl (k H locs ls hP hS hl)
theorem V_lshr (C : CX X B cc nL own ret fr lo) {x : Int64} {y : Int32} (d : decode cc pc = .ok (.lshr, 1)) (k : V X Q h (pc + 1) lv (.long (x >>> (y.toInt64 &&& 63)) :: st)) : V X Q h pc lv (.int y :: .long x :: st) := by
  obtain ⟨p, e, R, s, m, args, below, meth, c, l, D, ad, cA, nh⟩ := X
  obtain ⟨hx, hb, hml, hown, hts, hret, hlocks, hK, hI, hN, hfr, hlo, hB⟩ := C
  intro H locs ls hP hS hl
  exact lv_lshr hx hb d rfl (k H locs ls hP hS hl)
theorem V_lushr (C : CX X B cc nL own ret fr lo) {x : Int64} {y : Int32} (d : decode cc pc = .ok (.lushr, 1)) (k : V X Q h (pc + 1) lv (.long ((x.toUInt64 >>> (y.toInt64.toUInt64 &&& Int64.toUInt64 63)).toInt64) :: st)) : V X Q h pc lv (.int y :: .long x :: st) := by
  obtain ⟨p, e, R, s, m, args, below, meth, c, l, D, ad, cA, nh⟩ := X
  obtain ⟨hx, hb, hml, hown, hts, hret, hlocks, hK, hI, hN, hfr, hlo, hB⟩ := C
  intro H locs ls hP hS hl
  exact lv_lushr hx hb d rfl (k H locs ls hP hS hl)
theorem V_i2l (C : CX X B cc nL own ret fr lo) {x : Int32} (d : decode cc pc = .ok (.i2l, 1)) (k : V X Q h (pc + 1) lv (.long x.toInt64 :: st)) : V X Q h pc lv (.int x :: st) := by
  obtain ⟨p, e, R, s, m, args, below, meth, c, l, D, ad, cA, nh⟩ := X
  obtain ⟨hx, hb, hml, hown, hts, hret, hlocks, hK, hI, hN, hfr, hlo, hB⟩ := C
  intro H locs ls hP hS hl
  exact lv_i2l hx hb d rfl (k H locs ls hP hS hl)
theorem V_l2i (C : CX X B cc nL own ret fr lo) {x : Int64} (d : decode cc pc = .ok (.l2i, 1)) (k : V X Q h (pc + 1) lv (.int x.toInt32 :: st)) : V X Q h pc lv (.long x :: st) := by
  obtain ⟨p, e, R, s, m, args, below, meth, c, l, D, ad, cA, nh⟩ := X
  obtain ⟨hx, hb, hml, hown, hts, hret, hlocks, hK, hI, hN, hfr, hlo, hB⟩ := C
  intro H locs ls hP hS hl
  exact lv_l2i hx hb d rfl (k H locs ls hP hS hl)
theorem V_i2c (C : CX X B cc nL own ret fr lo) {x : Int32} (d : decode cc pc = .ok (.i2c, 1)) (k : V X Q h (pc + 1) lv (.int (x.toUInt32 % 65536).toInt32 :: st)) : V X Q h pc lv (.int x :: st) := by
  obtain ⟨p, e, R, s, m, args, below, meth, c, l, D, ad, cA, nh⟩ := X
  obtain ⟨hx, hb, hml, hown, hts, hret, hlocks, hK, hI, hN, hfr, hlo, hB⟩ := C
  intro H locs ls hP hS hl
  exact lv_i2c hx hb d rfl (k H locs ls hP hS hl)
theorem V_dup (C : CX X B cc nL own ret fr lo) {va : Value} (d : decode cc pc = .ok (.dup, 1)) (hc : va.category = 1) (k : V X Q h (pc + 1) lv (va :: va :: st)) : V X Q h pc lv (va :: st) := by
  obtain ⟨p, e, R, s, m, args, below, meth, c, l, D, ad, cA, nh⟩ := X
  obtain ⟨hx, hb, hml, hown, hts, hret, hlocks, hK, hI, hN, hfr, hlo, hB⟩ := C
  intro H locs ls hP hS hl
  exact lv_dup hx hb d (by rw [tr_cat]; exact hc) (k H locs ls hP hS hl)
theorem V_dup2 (C : CX X B cc nL own ret fr lo) {va vb : Value} (d : decode cc pc = .ok (.dup2, 1)) (hc : va.category = 1) (hc2 : vb.category = 1) (k : V X Q h (pc + 1) lv (va :: vb :: va :: vb :: st)) : V X Q h pc lv (va :: vb :: st) := by
  obtain ⟨p, e, R, s, m, args, below, meth, c, l, D, ad, cA, nh⟩ := X
  obtain ⟨hx, hb, hml, hown, hts, hret, hlocks, hK, hI, hN, hfr, hlo, hB⟩ := C
  intro H locs ls hP hS hl
  exact lv_dup2_11 hx hb d (by rw [tr_cat]; exact hc) (by rw [tr_cat]; exact hc2) (k H locs ls hP hS hl)
theorem V_pop (C : CX X B cc nL own ret fr lo) {va : Value} (d : decode cc pc = .ok (.pop, 1)) (hc : va.category = 1) (k : V X Q h (pc + 1) lv (st)) : V X Q h pc lv (va :: st) := by
  obtain ⟨p, e, R, s, m, args, below, meth, c, l, D, ad, cA, nh⟩ := X
  obtain ⟨hx, hb, hml, hown, hts, hret, hlocks, hK, hI, hN, hfr, hlo, hB⟩ := C
  intro H locs ls hP hS hl
  exact lv_pop hx hb d (by rw [tr_cat]; exact hc) (k H locs ls hP hS hl)
theorem V_if_eq (C : CX X B cc nL own ret fr lo) {x : Int32} {off : Int} {tgt : Nat} (d : decode cc pc = .ok (.ifCond .eq off, 3)) (ht : (pc : Int) + off = (tgt : Int)) (kt : x = 0 → V X Q h tgt lv st) (kf : ¬ x = 0 → V X Q h (pc + 3) lv st) : V X Q h pc lv (.int x :: st) := by
  obtain ⟨p, e, R, s, m, args, below, meth, c, l, D, ad, cA, nh⟩ := X
  obtain ⟨hx, hb, hml, hown, hts, hret, hlocks, hK, hI, hN, hfr, hlo, hB⟩ := C
  intro H locs ls hP hS hl
  exact lv_if_eq hx hb d ht (fun q => kt q H locs ls hP hS hl) (fun q => kf q H locs ls hP hS hl)
theorem V_icmp_eq (C : CX X B cc nL own ret fr lo) {x y : Int32} {off : Int} {tgt : Nat} (d : decode cc pc = .ok (.if_icmp .eq off, 3)) (ht : (pc : Int) + off = (tgt : Int)) (kt : x = y → V X Q h tgt lv st) (kf : ¬ x = y → V X Q h (pc + 3) lv st) : V X Q h pc lv (.int y :: .int x :: st) := by
  obtain ⟨p, e, R, s, m, args, below, meth, c, l, D, ad, cA, nh⟩ := X
  obtain ⟨hx, hb, hml, hown, hts, hret, hlocks, hK, hI, hN, hfr, hlo, hB⟩ := C
  intro H locs ls hP hS hl
  exact lv_icmp_eq hx hb d ht (fun q => kt q H locs ls hP hS hl) (fun q => kf q H locs ls hP hS hl)
theorem V_if_ne (C : CX X B cc nL own ret fr lo) {x : Int32} {off : Int} {tgt : Nat} (d : decode cc pc = .ok (.ifCond .ne off, 3)) (ht : (pc : Int) + off = (tgt : Int)) (kt : ¬ x = 0 → V X Q h tgt lv st) (kf : x = 0 → V X Q h (pc + 3) lv st) : V X Q h pc lv (.int x :: st) := by
  obtain ⟨p, e, R, s, m, args, below, meth, c, l, D, ad, cA, nh⟩ := X
  obtain ⟨hx, hb, hml, hown, hts, hret, hlocks, hK, hI, hN, hfr, hlo, hB⟩ := C
  intro H locs ls hP hS hl
  exact lv_if_ne hx hb d ht (fun q => kt q H locs ls hP hS hl) (fun q => kf q H locs ls hP hS hl)
theorem V_icmp_ne (C : CX X B cc nL own ret fr lo) {x y : Int32} {off : Int} {tgt : Nat} (d : decode cc pc = .ok (.if_icmp .ne off, 3)) (ht : (pc : Int) + off = (tgt : Int)) (kt : ¬ x = y → V X Q h tgt lv st) (kf : x = y → V X Q h (pc + 3) lv st) : V X Q h pc lv (.int y :: .int x :: st) := by
  obtain ⟨p, e, R, s, m, args, below, meth, c, l, D, ad, cA, nh⟩ := X
  obtain ⟨hx, hb, hml, hown, hts, hret, hlocks, hK, hI, hN, hfr, hlo, hB⟩ := C
  intro H locs ls hP hS hl
  exact lv_icmp_ne hx hb d ht (fun q => kt q H locs ls hP hS hl) (fun q => kf q H locs ls hP hS hl)
theorem V_if_lt (C : CX X B cc nL own ret fr lo) {x : Int32} {off : Int} {tgt : Nat} (d : decode cc pc = .ok (.ifCond .lt off, 3)) (ht : (pc : Int) + off = (tgt : Int)) (kt : x < 0 → V X Q h tgt lv st) (kf : ¬ x < 0 → V X Q h (pc + 3) lv st) : V X Q h pc lv (.int x :: st) := by
  obtain ⟨p, e, R, s, m, args, below, meth, c, l, D, ad, cA, nh⟩ := X
  obtain ⟨hx, hb, hml, hown, hts, hret, hlocks, hK, hI, hN, hfr, hlo, hB⟩ := C
  intro H locs ls hP hS hl
  exact lv_if_lt hx hb d ht (fun q => kt q H locs ls hP hS hl) (fun q => kf q H locs ls hP hS hl)
theorem V_icmp_lt (C : CX X B cc nL own ret fr lo) {x y : Int32} {off : Int} {tgt : Nat} (d : decode cc pc = .ok (.if_icmp .lt off, 3)) (ht : (pc : Int) + off = (tgt : Int)) (kt : x < y → V X Q h tgt lv st) (kf : ¬ x < y → V X Q h (pc + 3) lv st) : V X Q h pc lv (.int y :: .int x :: st) := by
  obtain ⟨p, e, R, s, m, args, below, meth, c, l, D, ad, cA, nh⟩ := X
  obtain ⟨hx, hb, hml, hown, hts, hret, hlocks, hK, hI, hN, hfr, hlo, hB⟩ := C
  intro H locs ls hP hS hl
  exact lv_icmp_lt hx hb d ht (fun q => kt q H locs ls hP hS hl) (fun q => kf q H locs ls hP hS hl)
theorem V_if_ge (C : CX X B cc nL own ret fr lo) {x : Int32} {off : Int} {tgt : Nat} (d : decode cc pc = .ok (.ifCond .ge off, 3)) (ht : (pc : Int) + off = (tgt : Int)) (kt : 0 ≤ x → V X Q h tgt lv st) (kf : ¬ 0 ≤ x → V X Q h (pc + 3) lv st) : V X Q h pc lv (.int x :: st) := by
  obtain ⟨p, e, R, s, m, args, below, meth, c, l, D, ad, cA, nh⟩ := X
  obtain ⟨hx, hb, hml, hown, hts, hret, hlocks, hK, hI, hN, hfr, hlo, hB⟩ := C
  intro H locs ls hP hS hl
  exact lv_if_ge hx hb d ht (fun q => kt q H locs ls hP hS hl) (fun q => kf q H locs ls hP hS hl)
theorem V_icmp_ge (C : CX X B cc nL own ret fr lo) {x y : Int32} {off : Int} {tgt : Nat} (d : decode cc pc = .ok (.if_icmp .ge off, 3)) (ht : (pc : Int) + off = (tgt : Int)) (kt : y ≤ x → V X Q h tgt lv st) (kf : ¬ y ≤ x → V X Q h (pc + 3) lv st) : V X Q h pc lv (.int y :: .int x :: st) := by
  obtain ⟨p, e, R, s, m, args, below, meth, c, l, D, ad, cA, nh⟩ := X
  obtain ⟨hx, hb, hml, hown, hts, hret, hlocks, hK, hI, hN, hfr, hlo, hB⟩ := C
  intro H locs ls hP hS hl
  exact lv_icmp_ge hx hb d ht (fun q => kt q H locs ls hP hS hl) (fun q => kf q H locs ls hP hS hl)
theorem V_if_gt (C : CX X B cc nL own ret fr lo) {x : Int32} {off : Int} {tgt : Nat} (d : decode cc pc = .ok (.ifCond .gt off, 3)) (ht : (pc : Int) + off = (tgt : Int)) (kt : 0 < x → V X Q h tgt lv st) (kf : ¬ 0 < x → V X Q h (pc + 3) lv st) : V X Q h pc lv (.int x :: st) := by
  obtain ⟨p, e, R, s, m, args, below, meth, c, l, D, ad, cA, nh⟩ := X
  obtain ⟨hx, hb, hml, hown, hts, hret, hlocks, hK, hI, hN, hfr, hlo, hB⟩ := C
  intro H locs ls hP hS hl
  exact lv_if_gt hx hb d ht (fun q => kt q H locs ls hP hS hl) (fun q => kf q H locs ls hP hS hl)
theorem V_icmp_gt (C : CX X B cc nL own ret fr lo) {x y : Int32} {off : Int} {tgt : Nat} (d : decode cc pc = .ok (.if_icmp .gt off, 3)) (ht : (pc : Int) + off = (tgt : Int)) (kt : y < x → V X Q h tgt lv st) (kf : ¬ y < x → V X Q h (pc + 3) lv st) : V X Q h pc lv (.int y :: .int x :: st) := by
  obtain ⟨p, e, R, s, m, args, below, meth, c, l, D, ad, cA, nh⟩ := X
  obtain ⟨hx, hb, hml, hown, hts, hret, hlocks, hK, hI, hN, hfr, hlo, hB⟩ := C
  intro H locs ls hP hS hl
  exact lv_icmp_gt hx hb d ht (fun q => kt q H locs ls hP hS hl) (fun q => kf q H locs ls hP hS hl)
theorem V_if_le (C : CX X B cc nL own ret fr lo) {x : Int32} {off : Int} {tgt : Nat} (d : decode cc pc = .ok (.ifCond .le off, 3)) (ht : (pc : Int) + off = (tgt : Int)) (kt : x ≤ 0 → V X Q h tgt lv st) (kf : ¬ x ≤ 0 → V X Q h (pc + 3) lv st) : V X Q h pc lv (.int x :: st) := by
  obtain ⟨p, e, R, s, m, args, below, meth, c, l, D, ad, cA, nh⟩ := X
  obtain ⟨hx, hb, hml, hown, hts, hret, hlocks, hK, hI, hN, hfr, hlo, hB⟩ := C
  intro H locs ls hP hS hl
  exact lv_if_le hx hb d ht (fun q => kt q H locs ls hP hS hl) (fun q => kf q H locs ls hP hS hl)
theorem V_icmp_le (C : CX X B cc nL own ret fr lo) {x y : Int32} {off : Int} {tgt : Nat} (d : decode cc pc = .ok (.if_icmp .le off, 3)) (ht : (pc : Int) + off = (tgt : Int)) (kt : x ≤ y → V X Q h tgt lv st) (kf : ¬ x ≤ y → V X Q h (pc + 3) lv st) : V X Q h pc lv (.int y :: .int x :: st) := by
  obtain ⟨p, e, R, s, m, args, below, meth, c, l, D, ad, cA, nh⟩ := X
  obtain ⟨hx, hb, hml, hown, hts, hret, hlocks, hK, hI, hN, hfr, hlo, hB⟩ := C
  intro H locs ls hP hS hl
  exact lv_icmp_le hx hb d ht (fun q => kt q H locs ls hP hS hl) (fun q => kf q H locs ls hP hS hl)
theorem V_goto (C : CX X B cc nL own ret fr lo) {off : Int} {tgt : Nat} (d : decode cc pc = .ok (.goto off, 3)) (ht : (pc : Int) + off = (tgt : Int)) (k : V X Q h tgt lv st) : V X Q h pc lv st := by
  obtain ⟨p, e, R, s, m, args, below, meth, c, l, D, ad, cA, nh⟩ := X
  obtain ⟨hx, hb, hml, hown, hts, hret, hlocks, hK, hI, hN, hfr, hlo, hB⟩ := C
  intro H locs ls hP hS hl
  exact lv_goto hx hb d ht (k H locs ls hP hS hl)
theorem V_tsIn (C : CX X B cc nL own ret fr lo) {dflt lo1 hi1 : Int} {offs : Array Int} {len : Nat} {x : Int32} (v : Int32) {off : Int} {tgt : Nat} (d : decode cc pc = .ok (.tableswitch dflt lo1 hi1 offs, len)) (hv : x = v) (h1 : ¬ v.toInt < lo1) (h2 : ¬ hi1 < v.toInt) (ho : offs[(v.toInt - lo1).toNat]? = some off) (ht : (pc : Int) + off = (tgt : Int)) (k : V X Q h tgt lv st) : V X Q h pc lv (.int x :: st) := by
  obtain ⟨p, e, R, s, m, args, below, meth, c, l, D, ad, cA, nh⟩ := X
  obtain ⟨hx, hb, hml, hown, hts, hret, hlocks, hK, hI, hN, hfr, hlo, hB⟩ := C
  intro H locs ls hP hS hl
  subst hv
  exact lv_tableIn hx hb d h1 h2 ho ht (k H locs ls hP hS hl)
theorem ts_out {x : Int32} {lo1 hi1 : Int} (hk : ∀ k : Int, lo1 ≤ k → k ≤ hi1 → x ≠ Int32.ofInt k) : x.toInt < lo1 ∨ hi1 < x.toInt := by
  rcases Int.lt_or_le x.toInt lo1 with q | q
  · exact Or.inl q
  · rcases Int.lt_or_le hi1 x.toInt with r | r
    · exact Or.inr r
    · exact absurd (Int32.ofInt_toInt x).symm (hk x.toInt q r)
theorem V_tsOut (C : CX X B cc nL own ret fr lo) {dflt lo1 hi1 : Int} {offs : Array Int} {len : Nat} {x : Int32} {tgt : Nat} (d : decode cc pc = .ok (.tableswitch dflt lo1 hi1 offs, len)) (hk : ∀ k : Int, lo1 ≤ k → k ≤ hi1 → x ≠ Int32.ofInt k) (ht : (pc : Int) + dflt = (tgt : Int)) (k : V X Q h tgt lv st) : V X Q h pc lv (.int x :: st) := by
  obtain ⟨p, e, R, s, m, args, below, meth, c, l, D, ad, cA, nh⟩ := X
  obtain ⟨hx, hb, hml, hown, hts, hret, hlocks, hK, hI, hN, hfr, hlo, hB⟩ := C
  intro H locs ls hP hS hl
  exact lv_tableOut hx hb d (ts_out hk) ht (k H locs ls hP hS hl)
theorem V_lookup (C : CX X B cc nL own ret fr lo) {dflt : Int} {ps : Array (Int × Int)} {len : Nat} {x : Int32} {off : Int} {tgt : Nat} (d : decode cc pc = .ok (.lookupswitch dflt ps, len)) (hp : (ps.toList.zip (ps.toList.drop 1)).all (fun (a, next) => a.1 < next.1) = true) (ho : Op.lookupswitch.offset ps.toList dflt x.toInt = off) (ht : (pc : Int) + off = (tgt : Int)) (k : V X Q h tgt lv st) : V X Q h pc lv (.int x :: st) := by
  obtain ⟨p, e, R, s, m, args, below, meth, c, l, D, ad, cA, nh⟩ := X
  obtain ⟨hx, hb, hml, hown, hts, hret, hlocks, hK, hI, hN, hfr, hlo, hB⟩ := C
  intro H locs ls hP hS hl
  exact lv_lookup hx hb d hp ho ht (k H locs ls hP hS hl)
theorem V_getI (C : CX X B cc nL own ret fr lo) {i ci j k0 : Nat} {ty : FieldType} {fin : Bool} (d : decode cc pc = .ok (.getfield i, 3)) (lk : LKF own i ci j ty fin) (fk : FK B k0 ci j 0) (k : V X Q h (pc + 3) lv (.int (h.1 k0 j) :: st)) : V X Q h pc lv (.ref k0 :: st) := by
  obtain ⟨p, e, R, s, m, args, below, meth, c, l, D, ad, cA, nh⟩ := X
  obtain ⟨hx, hb, hml, hown, hts, hret, hlocks, hK, hI, hN, hfr, hlo, hB⟩ := C
  intro H locs ls hP hS hl
  obtain ⟨Cn, T, N, tyf, c1, c2, c3, c4, c5, c6, c7, c8, c9⟩ := lk
  obtain ⟨f1, fl, f2, f3⟩ := fk
  have he := WD_get (nh := nh) (ad := ad) (cA := cA) (h := h) (Nat.lt_of_lt_of_le f1 hB)
  rw [f2] at he
  refine va_get (v := fv ad h k0 j 0) hx hb hts c4 hown hK hP k0 he c1 j c2 (hts _ c3) (by rw [c7]; exact fun _ z => z) ?_ d (k H locs ls hP hS hl)
  rw [List.getElem?_mapIdx, f3]
  rfl
theorem V_getL (C : CX X B cc nL own ret fr lo) {i ci j k0 : Nat} {ty : FieldType} {fin : Bool} (d : decode cc pc = .ok (.getfield i, 3)) (lk : LKF own i ci j ty fin) (fk : FK B k0 ci j 1) (k : V X Q h (pc + 3) lv (.long (h.2 k0 j) :: st)) : V X Q h pc lv (.ref k0 :: st) := by
  obtain ⟨p, e, R, s, m, args, below, meth, c, l, D, ad, cA, nh⟩ := X
  obtain ⟨hx, hb, hml, hown, hts, hret, hlocks, hK, hI, hN, hfr, hlo, hB⟩ := C
  intro H locs ls hP hS hl
  obtain ⟨Cn, T, N, tyf, c1, c2, c3, c4, c5, c6, c7, c8, c9⟩ := lk
  obtain ⟨f1, fl, f2, f3⟩ := fk
  have he := WD_get (nh := nh) (ad := ad) (cA := cA) (h := h) (Nat.lt_of_lt_of_le f1 hB)
  rw [f2] at he
  refine va_get (v := fv ad h k0 j 1) hx hb hts c4 hown hK hP k0 he c1 j c2 (hts _ c3) (by rw [c7]; exact fun _ z => z) ?_ d (k H locs ls hP hS hl)
  rw [List.getElem?_mapIdx, f3]
  rfl
theorem V_getR (C : CX X B cc nL own ret fr lo) {i ci j k0 r : Nat} {ty : FieldType} {fin : Bool} (d : decode cc pc = .ok (.getfield i, 3)) (lk : LKF own i ci j ty fin) (fk : FK B k0 ci j (r + 2)) (k : V X Q h (pc + 3) lv (.ref r :: st)) : V X Q h pc lv (.ref k0 :: st) := by
  obtain ⟨p, e, R, s, m, args, below, meth, c, l, D, ad, cA, nh⟩ := X
  obtain ⟨hx, hb, hml, hown, hts, hret, hlocks, hK, hI, hN, hfr, hlo, hB⟩ := C
  intro H locs ls hP hS hl
  obtain ⟨Cn, T, N, tyf, c1, c2, c3, c4, c5, c6, c7, c8, c9⟩ := lk
  obtain ⟨f1, fl, f2, f3⟩ := fk
  have he := WD_get (nh := nh) (ad := ad) (cA := cA) (h := h) (Nat.lt_of_lt_of_le f1 hB)
  rw [f2] at he
  refine va_get (v := fv ad h k0 j (r + 2)) hx hb hts c4 hown hK hP k0 he c1 j c2 (hts _ c3) (by rw [c7]; exact fun _ z => z) ?_ d (k H locs ls hP hS hl)
  rw [List.getElem?_mapIdx, f3]
  rfl
theorem mapIdx_setI {ad : Nat → Nat} {h : PH} {k j : Nat} {fl : List Nat} {x : Int32} (hj : fl[j]? = some 0) : (fl.mapIdx (fun a q => fv ad h k a q)).set j (.int x) = fl.mapIdx (fun a q => fv ad (hs h k j x) k a q) := by
  apply List.ext_getElem?
  intro a
  by_cases ha : j = a
  · subst ha
    rw [List.getElem?_set_self (by rw [List.length_mapIdx]; exact (List.getElem?_eq_some_iff.mp hj).1), List.getElem?_mapIdx, hj]
    simp [fv, hs, upd, vp_updL]
  · rw [List.getElem?_set_ne ha, List.getElem?_mapIdx, List.getElem?_mapIdx]
    cases fl[a]? with
    | none => rfl
    | some q =>
      have ha' : ¬ a = j := fun e => ha e.symm
      match q with
      | 0 => simp [fv, hs, upd, vp_updL, ha']
      | 1 => simp [fv, hs, upd, vp_updL, ha']
      | r + 2 => simp [fv]
theorem V_putI (C : CX X B cc nL own ret fr lo) {i ci j k0 : Nat} {ty : FieldType} {x : Int32} (d : decode cc pc = .ok (.putfield i, 3)) (lk : LKF own i ci j ty false) (fk : FK B k0 ci j 0) (hn : narrow ty (.int x) = .int x) (hf : fits ty (.int x) = true) {h1 : PH} (eh : h1 = hs h k0 j x) (k : V X Q h1 (pc + 3) lv st) : V X Q h pc lv (.int x :: .ref k0 :: st) := by
  obtain ⟨p, e, R, s, m, args, below, meth, c, l, D, ad, cA, nh⟩ := X
  obtain ⟨hx, hb, hml, hown, hts, hret, hlocks, hK, hI, hN, hfr, hlo, hB⟩ := C
  intro H locs ls hP hS hl
  subst eh
  obtain ⟨Cn, T, N, tyf, c1, c2, c3, c4, c5, c6, c7, c8, c9⟩ := lk
  obtain ⟨f1, fl, f2, f3⟩ := fk
  have he := WD_get (nh := nh) (ad := ad) (cA := cA) (h := h) (Nat.lt_of_lt_of_le f1 hB)
  rw [f2] at he
  have hd := c5 j c2
  rw [c8] at hd
  refine va_put (v := .int x) hx hb hts c4 tyf c5 c6 hown hK hP (WD_AD hI) hS k0 he c1 j c2 (hts _ c3) (by rw [c7]; exact fun _ z => z) c9 hd hn hf (by rw [List.length_mapIdx]; exact (List.getElem?_eq_some_iff.mp f3).1) d (fun H1 locs1 hP1 _ hS1 => k H1 locs1 ls ?_ hS1 hl)
  rw [mapIdx_setI f3] at hP1
  rwa [WD_set (h' := hs h k0 j x) (Nat.lt_of_lt_of_le f1 hB) (by rw [f2]; rfl) (fun a ha => by simp [hs, ha])] at hP1
theorem mapIdx_setL {ad : Nat → Nat} {h : PH} {k j : Nat} {fl : List Nat} {x : Int64} (hj : fl[j]? = some 1) : (fl.mapIdx (fun a q => fv ad h k a q)).set j (.long x) = fl.mapIdx (fun a q => fv ad (hsL h k j x) k a q) := by
  apply List.ext_getElem?
  intro a
  by_cases ha : j = a
  · subst ha
    rw [List.getElem?_set_self (by rw [List.length_mapIdx]; exact (List.getElem?_eq_some_iff.mp hj).1), List.getElem?_mapIdx, hj]
    simp [fv, hsL, upd, vp_updL]
  · rw [List.getElem?_set_ne ha, List.getElem?_mapIdx, List.getElem?_mapIdx]
    cases fl[a]? with
    | none => rfl
    | some q =>
      have ha' : ¬ a = j := fun e => ha e.symm
      match q with
      | 0 => simp [fv, hsL, upd, vp_updL, ha']
      | 1 => simp [fv, hsL, upd, vp_updL, ha']
      | r + 2 => simp [fv]
theorem V_putL (C : CX X B cc nL own ret fr lo) {i ci j k0 : Nat} {ty : FieldType} {x : Int64} (d : decode cc pc = .ok (.putfield i, 3)) (lk : LKF own i ci j ty false) (fk : FK B k0 ci j 1) (hn : narrow ty (.long x) = .long x) (hf : fits ty (.long x) = true) {h1 : PH} (eh : h1 = hsL h k0 j x) (k : V X Q h1 (pc + 3) lv st) : V X Q h pc lv (.long x :: .ref k0 :: st) := by
  obtain ⟨p, e, R, s, m, args, below, meth, c, l, D, ad, cA, nh⟩ := X
  obtain ⟨hx, hb, hml, hown, hts, hret, hlocks, hK, hI, hN, hfr, hlo, hB⟩ := C
  intro H locs ls hP hS hl
  subst eh
  obtain ⟨Cn, T, N, tyf, c1, c2, c3, c4, c5, c6, c7, c8, c9⟩ := lk
  obtain ⟨f1, fl, f2, f3⟩ := fk
  have he := WD_get (nh := nh) (ad := ad) (cA := cA) (h := h) (Nat.lt_of_lt_of_le f1 hB)
  rw [f2] at he
  have hd := c5 j c2
  rw [c8] at hd
  refine va_put (v := .long x) hx hb hts c4 tyf c5 c6 hown hK hP (WD_AD hI) hS k0 he c1 j c2 (hts _ c3) (by rw [c7]; exact fun _ z => z) c9 hd hn hf (by rw [List.length_mapIdx]; exact (List.getElem?_eq_some_iff.mp f3).1) d (fun H1 locs1 hP1 _ hS1 => k H1 locs1 ls ?_ hS1 hl)
  rw [mapIdx_setL f3] at hP1
  rwa [WD_set (h' := hsL h k0 j x) (Nat.lt_of_lt_of_le f1 hB) (by rw [f2]; rfl) (fun a ha => by simp [hsL, ha])] at hP1
def inb (i : Int32) (n : Nat) : Bool := decide (¬ (i < 0 ∨ n ≤ i.toNatClampNeg))
theorem inb_in {i : Int32} {n : Nat} (h : inb i n = true) : vp_in i n := by
  unfold inb at h
  exact (of_decide_eq_true h : ¬ (i < 0 ∨ n ≤ i.toNatClampNeg))
theorem V_iald (C : CX X B cc nL own ret fr lo) {k0 n : Nat} {i : Int32} (d : decode cc pc = .ok (.iaload, 1)) (ak : AK B k0 0 n 0) (hi : inb i n = true) (k : V X Q h (pc + 1) lv (.int (h.1 k0 i.toNatClampNeg) :: st)) : V X Q h pc lv (.int i :: .ref k0 :: st) := by
  obtain ⟨p, e, R, s, m, args, below, meth, c, l, D, ad, cA, nh⟩ := X
  obtain ⟨hx, hb, hml, hown, hts, hret, hlocks, hK, hI, hN, hfr, hlo, hB⟩ := C
  intro H locs ls hP hS hl
  have he := WD_get (nh := nh) (ad := ad) (cA := cA) (h := h) (Nat.lt_of_lt_of_le ak.1 hB)
  rw [ak.2] at he
  exact va_iald hx hb hK hP k0 0 he rfl (inb_in hi) d (k H locs ls hP hS hl)
theorem V_iast (C : CX X B cc nL own ret fr lo) {k0 n : Nat} {i x : Int32} (d : decode cc pc = .ok (.iastore, 1)) (ak : AK B k0 0 n 0) (hi : inb i n = true) {h1 : PH} (eh : h1 = hs h k0 i.toNatClampNeg x) (k : V X Q h1 (pc + 1) lv st) : V X Q h pc lv (.int x :: .int i :: .ref k0 :: st) := by
  obtain ⟨p, e, R, s, m, args, below, meth, c, l, D, ad, cA, nh⟩ := X
  obtain ⟨hx, hb, hml, hown, hts, hret, hlocks, hK, hI, hN, hfr, hlo, hB⟩ := C
  intro H locs ls hP hS hl
  subst eh
  have he := WD_get (nh := nh) (ad := ad) (cA := cA) (h := h) (Nat.lt_of_lt_of_le ak.1 hB)
  rw [ak.2] at he
  refine va_iast hx hb hK hP (WD_AD hI) hS k0 0 he rfl (inb_in hi) d (fun H1 locs1 hP1 _ hS1 => k H1 locs1 ls ?_ hS1 hl)
  rwa [WD_set (h' := hs h k0 i.toNatClampNeg x) (Nat.lt_of_lt_of_le ak.1 hB) (by rw [ak.2]; simp [cellE, hs]) (fun a ha => by simp [hs, ha])] at hP1
theorem V_cald (C : CX X B cc nL own ret fr lo) {k0 n : Nat} {i : Int32} (d : decode cc pc = .ok (.caload, 1)) (ak : AK B k0 1 n 0) (hi : inb i n = true) (k : V X Q h (pc + 1) lv (.int (h.1 k0 i.toNatClampNeg) :: st)) : V X Q h pc lv (.int i :: .ref k0 :: st) := by
  obtain ⟨p, e, R, s, m, args, below, meth, c, l, D, ad, cA, nh⟩ := X
  obtain ⟨hx, hb, hml, hown, hts, hret, hlocks, hK, hI, hN, hfr, hlo, hB⟩ := C
  intro H locs ls hP hS hl
  have he := WD_get (nh := nh) (ad := ad) (cA := cA) (h := h) (Nat.lt_of_lt_of_le ak.1 hB)
  rw [ak.2] at he
  exact va_cald hx hb hK hP k0 1 he rfl (inb_in hi) d (k H locs ls hP hS hl)
theorem V_cast (C : CX X B cc nL own ret fr lo) {k0 n : Nat} {i x : Int32} (d : decode cc pc = .ok (.castore, 1)) (ak : AK B k0 1 n 0) (hi : inb i n = true) {h1 : PH} (eh : h1 = hs h k0 i.toNatClampNeg (vp_nar .char x)) (k : V X Q h1 (pc + 1) lv st) : V X Q h pc lv (.int x :: .int i :: .ref k0 :: st) := by
  obtain ⟨p, e, R, s, m, args, below, meth, c, l, D, ad, cA, nh⟩ := X
  obtain ⟨hx, hb, hml, hown, hts, hret, hlocks, hK, hI, hN, hfr, hlo, hB⟩ := C
  intro H locs ls hP hS hl
  subst eh
  have he := WD_get (nh := nh) (ad := ad) (cA := cA) (h := h) (Nat.lt_of_lt_of_le ak.1 hB)
  rw [ak.2] at he
  refine va_cast hx hb hK hP (WD_AD hI) hS k0 1 he rfl (inb_in hi) d (fun H1 locs1 hP1 _ hS1 => k H1 locs1 ls ?_ hS1 hl)
  rwa [WD_set (h' := hs h k0 i.toNatClampNeg (vp_nar .char x)) (Nat.lt_of_lt_of_le ak.1 hB) (by rw [ak.2]; simp [cellE, hs]) (fun a ha => by simp [hs, ha])] at hP1
theorem V_zald (C : CX X B cc nL own ret fr lo) {k0 n : Nat} {i : Int32} (d : decode cc pc = .ok (.baload, 1)) (ak : AK B k0 2 n 0) (hi : inb i n = true) (k : V X Q h (pc + 1) lv (.int (h.1 k0 i.toNatClampNeg) :: st)) : V X Q h pc lv (.int i :: .ref k0 :: st) := by
  obtain ⟨p, e, R, s, m, args, below, meth, c, l, D, ad, cA, nh⟩ := X
  obtain ⟨hx, hb, hml, hown, hts, hret, hlocks, hK, hI, hN, hfr, hlo, hB⟩ := C
  intro H locs ls hP hS hl
  have he := WD_get (nh := nh) (ad := ad) (cA := cA) (h := h) (Nat.lt_of_lt_of_le ak.1 hB)
  rw [ak.2] at he
  exact va_zald hx hb hK hP k0 2 he rfl (inb_in hi) d (k H locs ls hP hS hl)
theorem V_zast (C : CX X B cc nL own ret fr lo) {k0 n : Nat} {i x : Int32} (d : decode cc pc = .ok (.bastore, 1)) (ak : AK B k0 2 n 0) (hi : inb i n = true) {h1 : PH} (eh : h1 = hs h k0 i.toNatClampNeg (vp_nar .boolean x)) (k : V X Q h1 (pc + 1) lv st) : V X Q h pc lv (.int x :: .int i :: .ref k0 :: st) := by
  obtain ⟨p, e, R, s, m, args, below, meth, c, l, D, ad, cA, nh⟩ := X
  obtain ⟨hx, hb, hml, hown, hts, hret, hlocks, hK, hI, hN, hfr, hlo, hB⟩ := C
  intro H locs ls hP hS hl
  subst eh
  have he := WD_get (nh := nh) (ad := ad) (cA := cA) (h := h) (Nat.lt_of_lt_of_le ak.1 hB)
  rw [ak.2] at he
  refine va_zast hx hb hK hP (WD_AD hI) hS k0 2 he rfl (inb_in hi) d (fun H1 locs1 hP1 _ hS1 => k H1 locs1 ls ?_ hS1 hl)
  rwa [WD_set (h' := hs h k0 i.toNatClampNeg (vp_nar .boolean x)) (Nat.lt_of_lt_of_le ak.1 hB) (by rw [ak.2]; simp [cellE, hs]) (fun a ha => by simp [hs, ha])] at hP1
theorem V_alen (C : CX X B cc nL own ret fr lo) {k0 t n b : Nat} {v : Int32} (d : decode cc pc = .ok (.arraylength, 1)) (ak : AK B k0 t n b) (ht : t < 3) (hv : Int32.ofNat n = v) (k : V X Q h (pc + 1) lv (.int v :: st)) : V X Q h pc lv (.ref k0 :: st) := by
  obtain ⟨p, e, R, s, m, args, below, meth, c, l, D, ad, cA, nh⟩ := X
  obtain ⟨hx, hb, hml, hown, hts, hret, hlocks, hK, hI, hN, hfr, hlo, hB⟩ := C
  intro H locs ls hP hS hl
  have he := WD_get (nh := nh) (ad := ad) (cA := cA) (h := h) (Nat.lt_of_lt_of_le ak.1 hB)
  rw [ak.2] at he
  match t, ht, he with
  | 0, _, he => exact va_alen hx hb hK hP k0 0 he (ty := .int) rfl hv d (k H locs ls hP hS hl)
  | 1, _, he => exact va_alen hx hb hK hP k0 1 he (ty := .char) rfl hv d (k H locs ls hP hS hl)
  | 2, _, he => exact va_alen hx hb hK hP k0 2 he (ty := .boolean) rfl hv d (k H locs ls hP hS hl)
theorem V_aald (C : CX X B cc nL own ret fr lo) {k0 n b : Nat} {i : Int32} (d : decode cc pc = .ok (.aaload, 1)) (ak : AK B k0 4 n b) (hi : inb i n = true) (k : V X Q h (pc + 1) lv (.ref (b + i.toNatClampNeg) :: st)) : V X Q h pc lv (.int i :: .ref k0 :: st) := by
  obtain ⟨p, e, R, s, m, args, below, meth, c, l, D, ad, cA, nh⟩ := X
  obtain ⟨hx, hb, hml, hown, hts, hret, hlocks, hK, hI, hN, hfr, hlo, hB⟩ := C
  intro H locs ls hP hS hl
  have he := WD_get (nh := nh) (ad := ad) (cA := cA) (h := h) (Nat.lt_of_lt_of_le ak.1 hB)
  rw [ak.2] at he
  have hin := inb_in hi
  have hlt : i.toNatClampNeg < n := Nat.not_le.mp fun q => hin (Or.inr q)
  have hk := k H locs ls hP hS hl
  exact W.aald (v := .ref (ad (b + i.toNatClampNeg))) (ty := .array .int) hx hb (hP k0 _ he) ((hK.2 4 (cA 4, .array .int) rfl).1 n (fun j => va_rf (if j < n then some (ad (b + j)) else none))) rfl (fun q => by cases q) (by show ¬ (i < 0 ∨ (arrV _ _ _).slots.size ≤ _); rw [arrV_size]; exact hin) (by show (arrV _ _ _).slots[_]? = _; rw [arrV_read _ _ hlt]; simp [hlt, va_rf]) rfl rfl d hk
theorem V_topI {x y : Int32} (e : y = x) (k : V X Q h pc lv (.int y :: st)) : V X Q h pc lv (.int x :: st) := by
  subst e
  exact k
theorem V_topL {x y : Int64} (e : y = x) (k : V X Q h pc lv (.long y :: st)) : V X Q h pc lv (.long x :: st) := by
  subst e
  exact k
def ib {ρ : Type} (x : Int32) (f : Int32 → ρ) : ρ := f x
def lb {ρ : Type} (x : Int64) (f : Int64 → ρ) : ρ := f x
def hb {ρ : Type} (x : PH) (f : PH → ρ) : ρ := f x
def bI {ρ : Type} (x : Option (Int32 × PH)) (f : Int32 → PH → Option ρ) : Option ρ := match x with
  | none => none
  | some q => f q.1 q.2
def bL {ρ : Type} (x : Option (Int64 × PH)) (f : Int64 → PH → Option ρ) : Option ρ := match x with
  | none => none
  | some q => f q.1 q.2
def bV {ρ : Type} (x : Option PH) (f : PH → Option ρ) : Option ρ := match x with
  | none => none
  | some q => f q
theorem ib_n {ρ : Type} {x : Int32} {f : Int32 → ρ} {o : ρ} (h : ib x f = o) : ∃ y, y = x ∧ f y = o := ⟨x, rfl, h⟩
theorem lb_n {ρ : Type} {x : Int64} {f : Int64 → ρ} {o : ρ} (h : lb x f = o) : ∃ y, y = x ∧ f y = o := ⟨x, rfl, h⟩
theorem hb_n {ρ : Type} {x : PH} {f : PH → ρ} {o : ρ} (h : hb x f = o) : ∃ y, y = x ∧ f y = o := ⟨x, rfl, h⟩
theorem bI_n {ρ : Type} {x : Option (Int32 × PH)} {f : Int32 → PH → Option ρ} {o : ρ} (h : bI x f = some o) : ∃ r h1, x = some (r, h1) ∧ f r h1 = some o := by
  cases x with
  | none => cases h
  | some q => exact ⟨q.1, q.2, rfl, h⟩
theorem bL_n {ρ : Type} {x : Option (Int64 × PH)} {f : Int64 → PH → Option ρ} {o : ρ} (h : bL x f = some o) : ∃ r h1, x = some (r, h1) ∧ f r h1 = some o := by
  cases x with
  | none => cases h
  | some q => exact ⟨q.1, q.2, rfl, h⟩
theorem bV_n {ρ : Type} {x : Option PH} {f : PH → Option ρ} {o : ρ} (h : bV x f = some o) : ∃ h1, x = some h1 ∧ f h1 = some o := by
  cases x with
  | none => cases h
  | some q => exact ⟨q, rfl, h⟩
theorem gd_n {ρ : Type} {c : Prop} [Decidable c] {x : Option ρ} {o : ρ} (h : (if c then x else none) = some o) : c ∧ x = some o := by
  by_cases hc : c
  · rw [if_pos hc] at h
    exact ⟨hc, h⟩
  · rw [if_neg hc] at h
    cases h
def zb (r : Int32) : Bool := r == 0 || r == 1
theorem zb_n {r : Int32} (h : zb r = true) : narrow .boolean (.int r) = .int r ∧ fits .boolean (.int r) = true := by
  simp only [zb, Bool.or_eq_true, beq_iff_eq] at h
  rcases h with rfl | rfl <;> exact ⟨rfl, rfl⟩
theorem V_ldS (C : CX X B cc nL RX9 ret fr lo) (d : decode cc pc = .ok (.ldc 57, 2)) (k : V X Q h (pc + 2) lv (.ref 1000 :: st)) : V X Q h pc lv st := by
  obtain ⟨p, e, R, s, m, args, below, meth, c, l, D, ad, cA, nh⟩ := X
  obtain ⟨hx, hb, hml, hown, hts, hret, hlocks, hK, hI, hN, hfr, hlo, hB⟩ := C
  intro H locs ls hP hS hl
  exact va_ldcS hx hb hown hN.2.2.1 d (k H locs ls hP hS hl)
theorem V_ldW (C : CX X B cc nL RX9 ret fr lo) (d : decode cc pc = .ok (.ldc 67, 2)) (k : V X Q h (pc + 2) lv (.ref 1001 :: st)) : V X Q h pc lv st := by
  obtain ⟨p, e, R, s, m, args, below, meth, c, l, D, ad, cA, nh⟩ := X
  obtain ⟨hx, hb, hml, hown, hts, hret, hlocks, hK, hI, hN, hfr, hlo, hB⟩ := C
  intro H locs ls hP hS hl
  exact va_ldcS hx hb hown hN.2.2.2.1 d (k H locs ls hP hS hl)
theorem V_strV (C : CX X B cc nL own ret fr lo) {i si : Nat} (hsi : si < 2) (d : decode cc pc = .ok (.getfield i, 3)) (hl0 : Cond.fieldLink own i "java/lang/String" "value" "[B" ∈ BW) (k : V X Q h (pc + 3) lv (.ref (2000 + si) :: st)) : V X Q h pc lv (.ref (1000 + si) :: st) := by
  obtain ⟨p, e, R, s, m, args, below, meth, c, l, D, ad, cA, nh⟩ := X
  obtain ⟨hx, hb, hml, hown, hts, hret, hlocks, hK, hI, hN, hfr, hlo, hB⟩ := C
  intro H locs ls hP hS hl
  exact vk_getf hx hb (hN.2.1.1 si hsi).2.2.1 hS hown (hts _ hl0) (fun _ z => z) d (k H locs ls hP hS hl)
theorem V_strC (C : CX X B cc nL own ret fr lo) {i si : Nat} (hsi : si < 2) (d : decode cc pc = .ok (.getfield i, 3)) (hl0 : Cond.fieldLink own i "java/lang/String" "coder" "B" ∈ BW) (k : V X Q h (pc + 3) lv (.int 0 :: st)) : V X Q h pc lv (.ref (1000 + si) :: st) := by
  obtain ⟨p, e, R, s, m, args, below, meth, c, l, D, ad, cA, nh⟩ := X
  obtain ⟨hx, hb, hml, hown, hts, hret, hlocks, hK, hI, hN, hfr, hlo, hB⟩ := C
  intro H locs ls hP hS hl
  exact vk_getf hx hb (hN.2.1.1 si hsi).2.1 hS hown (hts _ hl0) (fun _ z => z) d (k H locs ls hP hS hl)
theorem V_strA (C : CX X B cc nL own ret fr lo) {si : Nat} {i : Int32} (hsi : si < 2) (d : decode cc pc = .ok (.baload, 1)) (hi : inb i (lenS.getD si 0) = true) (k : V X Q h (pc + 1) lv (.int ((bytS.getD si []).getD i.toNatClampNeg 0) :: st)) : V X Q h pc lv (.int i :: .ref (2000 + si) :: st) := by
  obtain ⟨p, e, R, s, m, args, below, meth, c, l, D, ad, cA, nh⟩ := X
  obtain ⟨hx, hb, hml, hown, hts, hret, hlocks, hK, hI, hN, hfr, hlo, hB⟩ := C
  intro H locs ls hP hS hl
  exact va_tb hx hb (hN.2.1.1 si hsi).2.2.2 hS (inb_in hi) rfl d (k H locs ls hP hS hl)
theorem V_strN (C : CX X B cc nL own ret fr lo) {si : Nat} (hsi : si < 2) (d : decode cc pc = .ok (.arraylength, 1)) (k : V X Q h (pc + 1) lv (.int (nI (lenS.getD si 0)) :: st)) : V X Q h pc lv (.ref (2000 + si) :: st) := by
  obtain ⟨p, e, R, s, m, args, below, meth, c, l, D, ad, cA, nh⟩ := X
  obtain ⟨hx, hb, hml, hown, hts, hret, hlocks, hK, hI, hN, hfr, hlo, hB⟩ := C
  intro H locs ls hP hS hl
  exact va_tlen hx hb (hN.2.1.1 si hsi).2.2.2 hS rfl d (k H locs ls hP hS hl)
theorem V_cmp (C : CX X B cc nL own ret fr lo) {i : Nat} (d : decode cc pc = .ok (.getstatic i, 3)) (hl0 : Cond.fieldLink own i "java/lang/String" "COMPACT_STRINGS" "Z" ∈ BW) (k : V X Q h (pc + 3) lv (.int 1 :: st)) : V X Q h pc lv st := by
  obtain ⟨p, e, R, s, m, args, below, meth, c, l, D, ad, cA, nh⟩ := X
  obtain ⟨hx, hb, hml, hown, hts, hret, hlocks, hK, hI, hN, hfr, hlo, hB⟩ := C
  intro H locs ls hP hS hl
  exact va_gets hx hb hN.2.2.2.2.1 hS hown (hts _ hl0) (fun _ z => z) d (k H locs ls hP hS hl)
theorem V_sio (C : CX X B cc nL own ret fr lo) {i : Nat} (d : decode cc pc = .ok (.getstatic i, 3)) (hl0 : Cond.fieldLink own i "jdk/internal/util/Preconditions" "SIOOBE_FORMATTER" "Ljava/util/function/BiFunction;" ∈ BW) (k1 : V X Q h (pc + 3) lv (.null :: st)) (k2 : V X Q h (pc + 3) lv (.ref 3000 :: st)) : V X Q h pc lv st := by
  obtain ⟨p, e, R, s, m, args, below, meth, c, l, D, ad, cA, nh⟩ := X
  obtain ⟨hx, hb, hml, hown, hts, hret, hlocks, hK, hI, hN, hfr, hlo, hB⟩ := C
  intro H locs ls hP hS hl
  rcases hN.2.2.2.2.2 with z | z
  · exact va_gets hx hb z hS hown (hts _ hl0) (fun _ z => z) d (k1 H locs ls hP hS hl)
  · exact va_gets hx hb z hS hown (hts _ hl0) (fun _ z => z) d (k2 H locs ls hP hS hl)
theorem V_i2b (C : CX X B cc nL own ret fr lo) {x : Int32} (d : decode cc pc = .ok (.i2b, 1)) (k : V X Q h (pc + 1) lv (.int x.toInt8.toInt32 :: st)) : V X Q h pc lv (.int x :: st) := by
  obtain ⟨p, e, R, s, m, args, below, meth, c, l, D, ad, cA, nh⟩ := X
  obtain ⟨hx, hb, hml, hown, hts, hret, hlocks, hK, hI, hN, hfr, hlo, hB⟩ := C
  intro H locs ls hP hS hl
  exact lv_i2b hx hb d rfl (k H locs ls hP hS hl)
/-- a method's world at its start and at its end -/
def WP (nh : Nat) (D : va_G) (ad : Nat → Nat) (cA : Nat → ClassId) (h : PH) (sz : Nat) (U : State) : Prop := U.heap.size = sz ∧ va_P D vwCl (WD nh ad cA h) U.heap ∧ va_K D vwCl (TY cA) U ∧ INJ nh ad ∧ NWM U ∧ STR nh ad U
def WQ (nh : Nat) (D : va_G) (ad : Nat → Nat) (cA : Nat → ClassId) (h : PH) (t : State) : Prop := va_P D vwCl (WD nh ad cA h) t.heap ∧ va_K D vwCl (TY cA) t
def QcI (nh : Nat) (D : va_G) (ad : Nat → Nat) (cA : Nat → ClassId) (sz : Nat) (r : Int32) (h : PH) : Array Value → State → Outcome → State → Prop := va_Qi (fun r' (_ : Unit) => r' = r) (fun _ t => WQ nh D ad cA h t) (AD nh ad sz)
def QcL (nh : Nat) (D : va_G) (ad : Nat → Nat) (cA : Nat → ClassId) (sz : Nat) (r : Int64) (h : PH) : Array Value → State → Outcome → State → Prop := va_Ql (fun r' (_ : Unit) => r' = r) (fun _ t => WQ nh D ad cA h t) (AD nh ad sz)
def QcV (nh : Nat) (D : va_G) (ad : Nat → Nat) (cA : Nat → ClassId) (sz : Nat) (h : PH) : Array Value → State → Outcome → State → Prop := va_Qv (fun (_ : Unit) => True) (fun _ t => WQ nh D ad cA h t) (AD nh ad sz)
def QI (X : CT) (r : Int32) (h : PH) : State → Prop := match X with
  | (p, e, R, s, m, args, below, meth, c, l, D, ad, cA, nh) => MQ below (QcI nh D ad cA s.heap.size r h) args s 0 0 (AD nh ad s.heap.size)
def QL (X : CT) (r : Int64) (h : PH) : State → Prop := match X with
  | (p, e, R, s, m, args, below, meth, c, l, D, ad, cA, nh) => MQ below (QcL nh D ad cA s.heap.size r h) args s 0 0 (AD nh ad s.heap.size)
def QV (X : CT) (h : PH) : State → Prop := match X with
  | (p, e, R, s, m, args, below, meth, c, l, D, ad, cA, nh) => MQ below (QcV nh D ad cA s.heap.size h) args s 0 0 (AD nh ad s.heap.size)
theorem V_iret (C : CX X B cc nL own (some .int) fr lo) {r : Int32} (d : decode cc pc = .ok (.ireturn, 1)) : V X (QI X r h) h pc lv [.int r] := by
  obtain ⟨p, e, R, s, m, args, below, meth, c, l, D, ad, cA, nh⟩ := X
  obtain ⟨hx, hb, hml, hown, hts, hret, hlocks, hK, hI, hN, hfr, hlo, hB⟩ := C
  intro H locs ls hP hS hl
  exact W.iret hx hb hret (fun t ht hW => ⟨⟨r, (), rfl, rfl, by rw [ht]; exact hP, va_K.moved hW.alike hK⟩, hS.F ht⟩) hS.2.2 d
theorem V_zret (C : CX X B cc nL own (some .boolean) fr lo) {r : Int32} (d : decode cc pc = .ok (.ireturn, 1)) (hz : narrow .boolean (.int r) = .int r) : V X (QI X r h) h pc lv [.int r] := by
  obtain ⟨p, e, R, s, m, args, below, meth, c, l, D, ad, cA, nh⟩ := X
  obtain ⟨hx, hb, hml, hown, hts, hret, hlocks, hK, hI, hN, hfr, hlo, hB⟩ := C
  intro H locs ls hP hS hl
  exact W.zret hx hb hret hz (fun t ht hW => ⟨⟨r, (), rfl, rfl, by rw [ht]; exact hP, va_K.moved hW.alike hK⟩, hS.F ht⟩) hS.2.2 d
theorem V_nret {ty : FieldType} (C : CX X B cc nL own (some ty) fr lo) {r : Int32} (d : decode cc pc = .ok (.ireturn, 1)) (hz : narrow ty (.int r) = .int r) : V X (QI X r h) h pc lv [.int r] := by
  obtain ⟨p, e, R, s, m, args, below, meth, c, l, D, ad, cA, nh⟩ := X
  obtain ⟨hx, hb, hml, hown, hts, hret, hlocks, hK, hI, hN, hfr, hlo, hB⟩ := C
  intro H locs ls hP hS hl
  exact W.zret hx hb hret hz (fun t ht hW => ⟨⟨r, (), rfl, rfl, by rw [ht]; exact hP, va_K.moved hW.alike hK⟩, hS.F ht⟩) hS.2.2 d
theorem V_lret (C : CX X B cc nL own (some .long) fr lo) {r : Int64} (d : decode cc pc = .ok (.lreturn, 1)) : V X (QL X r h) h pc lv [.long r] := by
  obtain ⟨p, e, R, s, m, args, below, meth, c, l, D, ad, cA, nh⟩ := X
  obtain ⟨hx, hb, hml, hown, hts, hret, hlocks, hK, hI, hN, hfr, hlo, hB⟩ := C
  intro H locs ls hP hS hl
  exact W.lret hx hb hret (fun t ht hW => ⟨⟨r, (), rfl, rfl, by rw [ht]; exact hP, va_K.moved hW.alike hK⟩, hS.F ht⟩) hS.2.2 d
theorem V_vret (C : CX X B cc nL own none fr lo) (d : decode cc pc = .ok (.return_, 1)) : V X (QV X h) h pc lv [] := by
  obtain ⟨p, e, R, s, m, args, below, meth, c, l, D, ad, cA, nh⟩ := X
  obtain ⟨hx, hb, hml, hown, hts, hret, hlocks, hK, hI, hN, hfr, hlo, hB⟩ := C
  intro H locs ls hP hS hl
  exact W.vret hx hb hret (fun t ht hW => ⟨⟨(), rfl, trivial, by rw [ht]; exact hP, va_K.moved hW.alike hK⟩, hS.F ht⟩) hS.2.2 d
end VV
abbrev RM (fr lo : Nat) : Room := { frames := fr, cells := 0, slots := 0, locals := lo }
/-- the contracts: an int (or a truth) comes, a long, nothing -/
def MI (E : EV) (B : Nat) (y : MethodName) (bytes : ByteArray) (maxL : Nat) (ret : Option FieldType) (fr lo : Nat) (av : List Value) (h : PH) (r : Int32) (h' : PH) : Prop := match E with
  | (l, D, ad, cA, nh) => B ≤ nh → ∀ sz, Met l y (Cond.code y bytes maxL ret :: BW) (RM fr lo) (va_Pc (av.map (tr ad)) (WP nh D ad cA h sz)) (QcI nh D ad cA sz r h') 0 0 (AD nh ad sz)
def ML (E : EV) (B : Nat) (y : MethodName) (bytes : ByteArray) (maxL : Nat) (ret : Option FieldType) (fr lo : Nat) (av : List Value) (h : PH) (r : Int64) (h' : PH) : Prop := match E with
  | (l, D, ad, cA, nh) => B ≤ nh → ∀ sz, Met l y (Cond.code y bytes maxL ret :: BW) (RM fr lo) (va_Pc (av.map (tr ad)) (WP nh D ad cA h sz)) (QcL nh D ad cA sz r h') 0 0 (AD nh ad sz)
def MV (E : EV) (B : Nat) (y : MethodName) (bytes : ByteArray) (maxL : Nat) (ret : Option FieldType) (fr lo : Nat) (av : List Value) (h : PH) (h' : PH) : Prop := match E with
  | (l, D, ad, cA, nh) => B ≤ nh → ∀ sz, Met l y (Cond.code y bytes maxL ret :: BW) (RM fr lo) (va_Pc (av.map (tr ad)) (WP nh D ad cA h sz)) (QcV nh D ad cA sz h') 0 0 (AD nh ad sz)
def lnOK (av : List Value) (n : Nat) : Bool := decide ((lg_sl av).length ≤ n)
theorem lg_map {ad : Nat → Nat} (av : List Value) : (lg_sl (av.map (tr ad))).length = (lg_sl av).length := by
  induction av with
  | nil => rfl
  | cons v vs ih =>
    simp only [lg_sl, List.map_cons, List.flatMap_cons, List.length_append] at ih ⊢
    rw [tr_cat]
    by_cases hc : v.category = 2 <;> simp [hc, ih]
theorem MI.of {E : EV} {B : Nat} {y : MethodName} {cc : ByteArray} {nL : Nat} {ret : Option FieldType} {fr lo : Nat} {av : List Value} {h : PH} {r : Int32} {h2 : PH} (kp : Nat) (hy : plainName y.cls = true) (hln : lnOK av nL = true)
    (body : ∀ X : CT, xE X = E → CX X B cc nL y.cls ret fr lo → V X (QI X r h2) h 0 (lvin av ++ List.replicate kp none) []) : MI E B y cc nL ret fr lo av h r h2 := by
  obtain ⟨l, D, ad, cA, nh⟩ := E
  intro hB sz
  refine Met.ofW (cc := cc) (maxL := nL) (ret := ret) hy rfl ?_
  intro p e s m args below meth c s₁ B hml hv
  obtain ⟨rfl, hsz, hP, hK, hI, hN⟩ := hv
  subst hsz
  have hts := atoms_spec (ws := Cond.code y cc nL ret :: BW) B.pre
  have hl := lv_entry (av.map (tr ad)) (n := nL) (by rw [lg_map]; exact of_decide_eq_true hln)
  rw [lg_entry_eq]
  generalize (lg_sl (av.map (tr ad)) ++ List.replicate (nL - (lg_sl (av.map (tr ad))).length) Slot.unset).toArray = ls at hl ⊢
  exact body (p, e, RM fr lo, s, m, (av.map (tr ad)).toArray, below, meth, c, l, D, ad, cA, nh) rfl ⟨B.exec, B.bytes, hml, findClass_of_methodNamed B.named, fun w hw => hts w (List.mem_cons_of_mem _ hw), B.returns, B.notSynchronized, hK, hI, hN, Nat.le_refl _, Nat.le_refl _, hB⟩ s.heap [] ls hP va_S.rf (by rw [hml]; exact LV.start hl)
theorem ML.of {E : EV} {B : Nat} {y : MethodName} {cc : ByteArray} {nL : Nat} {ret : Option FieldType} {fr lo : Nat} {av : List Value} {h : PH} {r : Int64} {h2 : PH} (kp : Nat) (hy : plainName y.cls = true) (hln : lnOK av nL = true)
    (body : ∀ X : CT, xE X = E → CX X B cc nL y.cls ret fr lo → V X (QL X r h2) h 0 (lvin av ++ List.replicate kp none) []) : ML E B y cc nL ret fr lo av h r h2 := by
  obtain ⟨l, D, ad, cA, nh⟩ := E
  intro hB sz
  refine Met.ofW (cc := cc) (maxL := nL) (ret := ret) hy rfl ?_
  intro p e s m args below meth c s₁ B hml hv
  obtain ⟨rfl, hsz, hP, hK, hI, hN⟩ := hv
  subst hsz
  have hts := atoms_spec (ws := Cond.code y cc nL ret :: BW) B.pre
  have hl := lv_entry (av.map (tr ad)) (n := nL) (by rw [lg_map]; exact of_decide_eq_true hln)
  rw [lg_entry_eq]
  generalize (lg_sl (av.map (tr ad)) ++ List.replicate (nL - (lg_sl (av.map (tr ad))).length) Slot.unset).toArray = ls at hl ⊢
  exact body (p, e, RM fr lo, s, m, (av.map (tr ad)).toArray, below, meth, c, l, D, ad, cA, nh) rfl ⟨B.exec, B.bytes, hml, findClass_of_methodNamed B.named, fun w hw => hts w (List.mem_cons_of_mem _ hw), B.returns, B.notSynchronized, hK, hI, hN, Nat.le_refl _, Nat.le_refl _, hB⟩ s.heap [] ls hP va_S.rf (by rw [hml]; exact LV.start hl)
theorem MV.of {E : EV} {B : Nat} {y : MethodName} {cc : ByteArray} {nL : Nat} {ret : Option FieldType} {fr lo : Nat} {av : List Value} {h : PH} {h2 : PH} (kp : Nat) (hy : plainName y.cls = true) (hln : lnOK av nL = true)
    (body : ∀ X : CT, xE X = E → CX X B cc nL y.cls ret fr lo → V X (QV X h2) h 0 (lvin av ++ List.replicate kp none) []) : MV E B y cc nL ret fr lo av h h2 := by
  obtain ⟨l, D, ad, cA, nh⟩ := E
  intro hB sz
  refine Met.ofW (cc := cc) (maxL := nL) (ret := ret) hy rfl ?_
  intro p e s m args below meth c s₁ B hml hv
  obtain ⟨rfl, hsz, hP, hK, hI, hN⟩ := hv
  subst hsz
  have hts := atoms_spec (ws := Cond.code y cc nL ret :: BW) B.pre
  have hl := lv_entry (av.map (tr ad)) (n := nL) (by rw [lg_map]; exact of_decide_eq_true hln)
  rw [lg_entry_eq]
  generalize (lg_sl (av.map (tr ad)) ++ List.replicate (nL - (lg_sl (av.map (tr ad))).length) Slot.unset).toArray = ls at hl ⊢
  exact body (p, e, RM fr lo, s, m, (av.map (tr ad)).toArray, below, meth, c, l, D, ad, cA, nh) rfl ⟨B.exec, B.bytes, hml, findClass_of_methodNamed B.named, fun w hw => hts w (List.mem_cons_of_mem _ hw), B.returns, B.notSynchronized, hK, hI, hN, Nat.le_refl _, Nat.le_refl _, hB⟩ s.heap [] ls hP va_S.rf (by rw [hml]; exact LV.start hl)
/-- what the tables say of a method: called on an object, static, a nest mate's static -/
def MK (y : MethodName) (bytes : ByteArray) (maxL : Nat) (ret : Option FieldType) : Prop := Cond.instanceMethod y ∈ BW ∧ Cond.selects y.cls y y ∈ BW ∧ Cond.initialized y.cls ∈ BW ∧ Cond.code y bytes maxL ret ∈ BW ∧ y.cls ≠ "java/lang/invoke/MethodHandle" ∧ y.cls ≠ "java/lang/invoke/VarHandle"
def MS (y : MethodName) (bytes : ByteArray) (maxL : Nat) (ret : Option FieldType) : Prop := Cond.static y ∈ BW ∧ Cond.initialized y.cls ∈ BW ∧ Cond.code y bytes maxL ret ∈ BW ∧ y.cls ≠ "java/lang/invoke/MethodHandle" ∧ y.cls ≠ "java/lang/invoke/VarHandle"
def sumcat (st : List Value) : Nat := (st.map fun v => v.category).sum
theorem sumcat_tr {ad : Nat → Nat} (st : List Value) : ((st.map (tr ad)).map fun v => v.category).sum = sumcat st := by
  unfold sumcat
  rw [List.map_map]
  congr 1
  apply List.map_congr_left
  intro v _
  exact tr_cat v
theorem WP_blind {nh : Nat} {D : va_G} {ad : Nat → Nat} {cA : Nat → ClassId} {h : PH} {sz : Nat} {av : List Value} : FrameBlind (va_Pc av (WP nh D ad cA h sz)) := fun a U g mk q => by
  obtain ⟨q0, q1, q2, q3, q4, q5⟩ := q
  exact ⟨q0, q1, q2, va_K.moved (u := U) (U := U.calling g mk a) (Vm.Alike.refl U.vm) q3, q4, fun q hq => va_Nw.same rfl (u := U) rfl (q5.1 q hq), q5.2.blind⟩
section VC
variable {X : CT} {B : Nat} {cc : ByteArray} {nL : Nat} {own : String} {ret : Option FieldType} {fr lo : Nat} {Q : State → Prop} {h h' : PH} {pc : Nat} {lv : List (Option Value)} {st : List Value}
theorem V_callI (C : CX X B cc nL own ret fr lo) {y : MethodName} {bytes : ByteArray} {maxL : Nat} {rt : Option FieldType} {fr2 lo2 B2 : Nat} {i n k0 ci : Nat} {As rest : List Value} {r : Int32} (d : decode cc pc = .ok (.invokevirtual i, 3)) (hl0 : Cond.methodLink own i y ∈ BW) (mk : MK y bytes maxL rt) (ok : OK B k0 ci) (hci : (vwCl[ci]?).map (fun q => q.1) = some y.cls) (hM : MI (xE X) B2 y bytes maxL rt fr2 lo2 (.ref k0 :: As) h r h') (hn : As.length = n) (hd : (parseMethodDescriptor y.desc).map (fun d => d.parameters.length) = some n) (hB2 : B2 ≤ B) (hf : fr2 + 1 ≤ fr) (hlo2 : 8 + (maxL + 11) + lo2 ≤ lo) (hst : st = As.reverse ++ .ref k0 :: rest) (hc : sumcat rest ≤ 8) (k : V X Q h' (pc + 3) lv (.int r :: rest)) : V X Q h pc lv st := by
  obtain ⟨p, e, R, s, m, args, below, meth, c, l, D, ad, cA, nh⟩ := X
  obtain ⟨hx, hb, hml, hown, hts, hret, hlocks, hK, hI, hN, hfr, hlo, hB⟩ := C
  intro H locs ls hP hS hl
  obtain ⟨m1, m2, m3, m4, m5⟩ := mk
  obtain ⟨o1, fl, o2⟩ := ok
  have he := WD_get (nh := nh) (ad := ad) (cA := cA) (h := h) (Nat.lt_of_lt_of_le o1 hB)
  rw [o2] at he
  cases hq : vwCl[ci]? with
  | none => rw [hq] at hci; cases hci
  | some q =>
    rw [hq] at hci
    have hcl : q.1 = y.cls := Option.some.inj hci
    subst hst
    have hG : GoodIn BW (wsV own i y.cls y (Cond.code y bytes maxL rt :: BW)) := by
      intro w hw
      rcases List.mem_append.mp hw with hw | hw
      · have hm : w ∈ BW := by
          simp only [List.mem_cons, List.not_mem_nil, or_false] at hw
          rcases hw with rfl | rfl | rfl | rfl
          · exact hl0
          · exact m1
          · exact m2
          · exact m3
        exact bw_in w hm
      · exact bw_cons m4 w hw
    refine va_calli (va_runV (C := y.cls) (As := As.map (tr ad)) (rest := rest.map (tr ad)) (b := ad k0) ⟨hx, hb, hml, hown, hts⟩ (hM (Nat.le_trans hB2 hB) H.size) (cwV n hts hG rfl rfl rfl ⟨rfl, m5.1, m5.2, hd⟩ ⟨Nat.le_trans hf hfr, Nat.le_trans hlo2 hlo⟩) ⟨WP_blind, by have := va_recv hK hP hq he; rwa [hcl] at this, fun U hU hW => ⟨rfl, by rw [hU], by rw [hU]; exact hP, va_K.moved hW.alike hK, hI, hN.1.warm hW, hN.2.move hS hU hW⟩⟩ rfl (by rw [List.length_map]; exact hn) (by show ls.size = nL; rw [hl.1, hml]) (by show List.map (tr ad) (As.reverse ++ .ref k0 :: rest) = (As.map (tr ad)).reverse ++ .ref (ad k0) :: rest.map (tr ad); rw [List.map_append, List.map_reverse]; rfl) (lv_room (by rw [sumcat_tr]; exact hc)) d ⟨Nat.zero_le _, Nat.zero_le _⟩) hS (fun q _ z => AD_le hS.1 q z) (AD_le hS.1) (fun r1 u t H1 locs1 ht hvm hw hB hz hk hS1 => ?_)
    subst hw
    obtain ⟨hP1, hK1⟩ := hB
    rw [ht] at hP1
    exact k H1 locs1 ls hP1 hS1 hl
theorem V_scallI (C : CX X B cc nL own ret fr lo) {y : MethodName} {bytes : ByteArray} {maxL : Nat} {rt : Option FieldType} {fr2 lo2 B2 : Nat} {i n si : Nat} {As rest : List Value} {r : Int32} (hsi : si < 2) (d : decode cc pc = .ok (.invokevirtual i, 3)) (hl0 : Cond.methodLink own i y ∈ BW) (mk : MK y bytes maxL rt) (hci : y.cls = "java/lang/String") (hM : MI (xE X) B2 y bytes maxL rt fr2 lo2 (.ref (1000 + si) :: As) h r h') (hn : As.length = n) (hd : (parseMethodDescriptor y.desc).map (fun d => d.parameters.length) = some n) (hB2 : B2 ≤ B) (hf : fr2 + 1 ≤ fr) (hlo2 : 8 + (maxL + 11) + lo2 ≤ lo) (hst : st = As.reverse ++ .ref (1000 + si) :: rest) (hc : sumcat rest ≤ 8) (k : V X Q h' (pc + 3) lv (.int r :: rest)) : V X Q h pc lv st := by
  obtain ⟨p, e, R, s, m, args, below, meth, c, l, D, ad, cA, nh⟩ := X
  obtain ⟨hx, hb, hml, hown, hts, hret, hlocks, hK, hI, hN, hfr, hlo, hB⟩ := C
  intro H locs ls hP hS hl
  obtain ⟨m1, m2, m3, m4, m5⟩ := mk
  subst hst
  have hG : GoodIn BW (wsV own i y.cls y (Cond.code y bytes maxL rt :: BW)) := by
    intro w hw
    rcases List.mem_append.mp hw with hw | hw
    · have hm : w ∈ BW := by
        simp only [List.mem_cons, List.not_mem_nil, or_false] at hw
        rcases hw with rfl | rfl | rfl | rfl
        · exact hl0
        · exact m1
        · exact m2
        · exact m3
      exact bw_in w hm
    · exact bw_cons m4 w hw
  refine va_calli (va_runV (C := y.cls) (As := As.map (tr ad)) (rest := rest.map (tr ad)) (b := ad (1000 + si)) ⟨hx, hb, hml, hown, hts⟩ (hM (Nat.le_trans hB2 hB) H.size) (cwV n hts hG rfl rfl rfl ⟨rfl, m5.1, m5.2, hd⟩ ⟨Nat.le_trans hf hfr, Nat.le_trans hlo2 hlo⟩) ⟨WP_blind, by rw [hci]; exact vk_recv (i := si) (adK := fun i => ad (1000 + i)) hN.2.1 hsi hS, fun U hU hW => ⟨rfl, by rw [hU], by rw [hU]; exact hP, va_K.moved hW.alike hK, hI, hN.1.warm hW, hN.2.move hS hU hW⟩⟩ rfl (by rw [List.length_map]; exact hn) (by show ls.size = nL; rw [hl.1, hml]) (by show List.map (tr ad) (As.reverse ++ .ref (1000 + si) :: rest) = (As.map (tr ad)).reverse ++ .ref (ad (1000 + si)) :: rest.map (tr ad); rw [List.map_append, List.map_reverse]; rfl) (lv_room (by rw [sumcat_tr]; exact hc)) d ⟨Nat.zero_le _, Nat.zero_le _⟩) hS (fun q _ z => AD_le hS.1 q z) (AD_le hS.1) (fun r1 u t H1 locs1 ht hvm hw hB hz hk hS1 => ?_)
  subst hw
  obtain ⟨hP1, hK1⟩ := hB
  rw [ht] at hP1
  exact k H1 locs1 ls hP1 hS1 hl
theorem V_statI (C : CX X B cc nL own ret fr lo) {y : MethodName} {bytes : ByteArray} {maxL : Nat} {rt : Option FieldType} {fr2 lo2 B2 : Nat} {i n : Nat} {As rest : List Value} {r : Int32} (d : decode cc pc = .ok (.invokestatic i, 3)) (hl0 : Cond.methodLink own i y ∈ BW) (mk : MS y bytes maxL rt) (hM : MI (xE X) B2 y bytes maxL rt fr2 lo2 As h r h') (hn : As.length = n) (hd : (parseMethodDescriptor y.desc).map (fun d => d.parameters.length) = some n) (hB2 : B2 ≤ B) (hf : fr2 + 1 ≤ fr) (hlo2 : 8 + (maxL + 11) + lo2 ≤ lo) (hst : st = As.reverse ++ rest) (hc : sumcat rest ≤ 8) (k : V X Q h' (pc + 3) lv (.int r :: rest)) : V X Q h pc lv st := by
  obtain ⟨p, e, R, s, m, args, below, meth, c, l, D, ad, cA, nh⟩ := X
  obtain ⟨hx, hb, hml, hown, hts, hret, hlocks, hK, hI, hN, hfr, hlo, hB⟩ := C
  intro H locs ls hP hS hl
  obtain ⟨m1, m3, m4, m5⟩ := mk
  subst hst
  have hG : GoodIn BW (va_wsS own i y (Cond.code y bytes maxL rt :: BW)) := by
    intro w hw
    rcases List.mem_append.mp hw with hw | hw
    · have hm : w ∈ BW := by
        simp only [List.mem_cons, List.not_mem_nil, or_false] at hw
        rcases hw with rfl | rfl | rfl
        · exact hl0
        · exact m1
        · exact m3
      exact bw_in w hm
    · exact bw_cons m4 w hw
  refine va_calli (va_runS (As := As.map (tr ad)) (rest := rest.map (tr ad)) ⟨hx, hb, hml, hown, hts⟩ (hM (Nat.le_trans hB2 hB) H.size) (va_cwS n hts hG rfl rfl rfl ⟨m5.1, m5.2, hd⟩ ⟨Nat.le_trans hf hfr, Nat.le_trans hlo2 hlo⟩) ⟨WP_blind, fun U hU hW => ⟨rfl, by rw [hU], by rw [hU]; exact hP, va_K.moved hW.alike hK, hI, hN.1.warm hW, hN.2.move hS hU hW⟩⟩ rfl (by rw [List.length_map]; exact hn) (by show ls.size = nL; rw [hl.1, hml]) (by show List.map (tr ad) (As.reverse ++ rest) = (As.map (tr ad)).reverse ++ rest.map (tr ad); rw [List.map_append, List.map_reverse]) (lv_room (by rw [sumcat_tr]; exact hc)) d ⟨Nat.zero_le _, Nat.zero_le _⟩) hS (fun q _ z => AD_le hS.1 q z) (AD_le hS.1) (fun r1 u t H1 locs1 ht hvm hw hB hz hk hS1 => ?_)
  subst hw
  obtain ⟨hP1, hK1⟩ := hB
  rw [ht] at hP1
  exact k H1 locs1 ls hP1 hS1 hl
theorem V_nstI (C : CX X B cc nL own ret fr lo) {y : MethodName} {bytes : ByteArray} {maxL : Nat} {rt : Option FieldType} {fr2 lo2 B2 : Nat} {i n : Nat} {host : String} {As rest : List Value} {r : Int32} (d : decode cc pc = .ok (.invokestatic i, 3)) (hl0 : (own, i, y, host) ∈ nwL) (mk : MS y bytes maxL rt) (hM : MI (xE X) B2 y bytes maxL rt fr2 lo2 As h r h') (hn : As.length = n) (hd : (parseMethodDescriptor y.desc).map (fun d => d.parameters.length) = some n) (hB2 : B2 ≤ B) (hf : fr2 + 1 ≤ fr) (hlo2 : 8 + (maxL + 11) + lo2 ≤ lo) (hst : st = As.reverse ++ rest) (hc : sumcat rest ≤ 8) (k : V X Q h' (pc + 3) lv (.int r :: rest)) : V X Q h pc lv st := by
  obtain ⟨p, e, R, s, m, args, below, meth, c, l, D, ad, cA, nh⟩ := X
  obtain ⟨hx, hb, hml, hown, hts, hret, hlocks, hK, hI, hN, hfr, hlo, hB⟩ := C
  intro H locs ls hP hS hl
  obtain ⟨m1, m3, m4, m5⟩ := mk
  subst hst
  refine va_calli (va_runSN (As := As.map (tr ad)) (rest := rest.map (tr ad)) ⟨hx, hb, hml, hown, hts⟩ (hM (Nat.le_trans hB2 hB) H.size) ⟨va_cnB n hts (bw_cons m4) rfl rfl rfl (hN.1 _ hl0) (hts _ m3) ⟨m5.1, m5.2, hd⟩ ⟨Nat.le_trans hf hfr, Nat.le_trans hlo2 hlo⟩, hts _ m1, trivial⟩ ⟨WP_blind, fun U hU hW => ⟨rfl, by rw [hU], by rw [hU]; exact hP, va_K.moved hW.alike hK, hI, hN.1.warm hW, hN.2.move hS hU hW⟩⟩ rfl (by rw [List.length_map]; exact hn) (by show ls.size = nL; rw [hl.1, hml]) (by show List.map (tr ad) (As.reverse ++ rest) = (As.map (tr ad)).reverse ++ rest.map (tr ad); rw [List.map_append, List.map_reverse]) (lv_room (by rw [sumcat_tr]; exact hc)) d ⟨Nat.zero_le _, Nat.zero_le _⟩) hS (fun q _ z => AD_le hS.1 q z) (AD_le hS.1) (fun r1 u t H1 locs1 ht hvm hw hB hz hk hS1 => ?_)
  subst hw
  obtain ⟨hP1, hK1⟩ := hB
  rw [ht] at hP1
  exact k H1 locs1 ls hP1 hS1 hl
theorem V_callL (C : CX X B cc nL own ret fr lo) {y : MethodName} {bytes : ByteArray} {maxL : Nat} {rt : Option FieldType} {fr2 lo2 B2 : Nat} {i n k0 ci : Nat} {As rest : List Value} {r : Int64} (d : decode cc pc = .ok (.invokevirtual i, 3)) (hl0 : Cond.methodLink own i y ∈ BW) (mk : MK y bytes maxL rt) (ok : OK B k0 ci) (hci : (vwCl[ci]?).map (fun q => q.1) = some y.cls) (hM : ML (xE X) B2 y bytes maxL rt fr2 lo2 (.ref k0 :: As) h r h') (hn : As.length = n) (hd : (parseMethodDescriptor y.desc).map (fun d => d.parameters.length) = some n) (hB2 : B2 ≤ B) (hf : fr2 + 1 ≤ fr) (hlo2 : 8 + (maxL + 11) + lo2 ≤ lo) (hst : st = As.reverse ++ .ref k0 :: rest) (hc : sumcat rest ≤ 8) (k : V X Q h' (pc + 3) lv (.long r :: rest)) : V X Q h pc lv st := by
  obtain ⟨p, e, R, s, m, args, below, meth, c, l, D, ad, cA, nh⟩ := X
  obtain ⟨hx, hb, hml, hown, hts, hret, hlocks, hK, hI, hN, hfr, hlo, hB⟩ := C
  intro H locs ls hP hS hl
  obtain ⟨m1, m2, m3, m4, m5⟩ := mk
  obtain ⟨o1, fl, o2⟩ := ok
  have he := WD_get (nh := nh) (ad := ad) (cA := cA) (h := h) (Nat.lt_of_lt_of_le o1 hB)
  rw [o2] at he
  cases hq : vwCl[ci]? with
  | none => rw [hq] at hci; cases hci
  | some q =>
    rw [hq] at hci
    have hcl : q.1 = y.cls := Option.some.inj hci
    subst hst
    have hG : GoodIn BW (wsV own i y.cls y (Cond.code y bytes maxL rt :: BW)) := by
      intro w hw
      rcases List.mem_append.mp hw with hw | hw
      · have hm : w ∈ BW := by
          simp only [List.mem_cons, List.not_mem_nil, or_false] at hw
          rcases hw with rfl | rfl | rfl | rfl
          · exact hl0
          · exact m1
          · exact m2
          · exact m3
        exact bw_in w hm
      · exact bw_cons m4 w hw
    refine va_calll (va_runV (C := y.cls) (As := As.map (tr ad)) (rest := rest.map (tr ad)) (b := ad k0) ⟨hx, hb, hml, hown, hts⟩ (hM (Nat.le_trans hB2 hB) H.size) (cwV n hts hG rfl rfl rfl ⟨rfl, m5.1, m5.2, hd⟩ ⟨Nat.le_trans hf hfr, Nat.le_trans hlo2 hlo⟩) ⟨WP_blind, by have := va_recv hK hP hq he; rwa [hcl] at this, fun U hU hW => ⟨rfl, by rw [hU], by rw [hU]; exact hP, va_K.moved hW.alike hK, hI, hN.1.warm hW, hN.2.move hS hU hW⟩⟩ rfl (by rw [List.length_map]; exact hn) (by show ls.size = nL; rw [hl.1, hml]) (by show List.map (tr ad) (As.reverse ++ .ref k0 :: rest) = (As.map (tr ad)).reverse ++ .ref (ad k0) :: rest.map (tr ad); rw [List.map_append, List.map_reverse]; rfl) (lv_room (by rw [sumcat_tr]; exact hc)) d ⟨Nat.zero_le _, Nat.zero_le _⟩) hS (fun q _ z => AD_le hS.1 q z) (AD_le hS.1) (fun r1 u t H1 locs1 ht hvm hw hB hz hk hS1 => ?_)
    subst hw
    obtain ⟨hP1, hK1⟩ := hB
    rw [ht] at hP1
    exact k H1 locs1 ls hP1 hS1 hl
theorem V_statL (C : CX X B cc nL own ret fr lo) {y : MethodName} {bytes : ByteArray} {maxL : Nat} {rt : Option FieldType} {fr2 lo2 B2 : Nat} {i n : Nat} {As rest : List Value} {r : Int64} (d : decode cc pc = .ok (.invokestatic i, 3)) (hl0 : Cond.methodLink own i y ∈ BW) (mk : MS y bytes maxL rt) (hM : ML (xE X) B2 y bytes maxL rt fr2 lo2 As h r h') (hn : As.length = n) (hd : (parseMethodDescriptor y.desc).map (fun d => d.parameters.length) = some n) (hB2 : B2 ≤ B) (hf : fr2 + 1 ≤ fr) (hlo2 : 8 + (maxL + 11) + lo2 ≤ lo) (hst : st = As.reverse ++ rest) (hc : sumcat rest ≤ 8) (k : V X Q h' (pc + 3) lv (.long r :: rest)) : V X Q h pc lv st := by
  obtain ⟨p, e, R, s, m, args, below, meth, c, l, D, ad, cA, nh⟩ := X
  obtain ⟨hx, hb, hml, hown, hts, hret, hlocks, hK, hI, hN, hfr, hlo, hB⟩ := C
  intro H locs ls hP hS hl
  obtain ⟨m1, m3, m4, m5⟩ := mk
  subst hst
  have hG : GoodIn BW (va_wsS own i y (Cond.code y bytes maxL rt :: BW)) := by
    intro w hw
    rcases List.mem_append.mp hw with hw | hw
    · have hm : w ∈ BW := by
        simp only [List.mem_cons, List.not_mem_nil, or_false] at hw
        rcases hw with rfl | rfl | rfl
        · exact hl0
        · exact m1
        · exact m3
      exact bw_in w hm
    · exact bw_cons m4 w hw
  refine va_calll (va_runS (As := As.map (tr ad)) (rest := rest.map (tr ad)) ⟨hx, hb, hml, hown, hts⟩ (hM (Nat.le_trans hB2 hB) H.size) (va_cwS n hts hG rfl rfl rfl ⟨m5.1, m5.2, hd⟩ ⟨Nat.le_trans hf hfr, Nat.le_trans hlo2 hlo⟩) ⟨WP_blind, fun U hU hW => ⟨rfl, by rw [hU], by rw [hU]; exact hP, va_K.moved hW.alike hK, hI, hN.1.warm hW, hN.2.move hS hU hW⟩⟩ rfl (by rw [List.length_map]; exact hn) (by show ls.size = nL; rw [hl.1, hml]) (by show List.map (tr ad) (As.reverse ++ rest) = (As.map (tr ad)).reverse ++ rest.map (tr ad); rw [List.map_append, List.map_reverse]) (lv_room (by rw [sumcat_tr]; exact hc)) d ⟨Nat.zero_le _, Nat.zero_le _⟩) hS (fun q _ z => AD_le hS.1 q z) (AD_le hS.1) (fun r1 u t H1 locs1 ht hvm hw hB hz hk hS1 => ?_)
  subst hw
  obtain ⟨hP1, hK1⟩ := hB
  rw [ht] at hP1
  exact k H1 locs1 ls hP1 hS1 hl
theorem V_callV (C : CX X B cc nL own ret fr lo) {y : MethodName} {bytes : ByteArray} {maxL : Nat} {rt : Option FieldType} {fr2 lo2 B2 : Nat} {i n k0 ci : Nat} {As rest : List Value} (d : decode cc pc = .ok (.invokevirtual i, 3)) (hl0 : Cond.methodLink own i y ∈ BW) (mk : MK y bytes maxL rt) (ok : OK B k0 ci) (hci : (vwCl[ci]?).map (fun q => q.1) = some y.cls) (hM : MV (xE X) B2 y bytes maxL rt fr2 lo2 (.ref k0 :: As) h h') (hn : As.length = n) (hd : (parseMethodDescriptor y.desc).map (fun d => d.parameters.length) = some n) (hB2 : B2 ≤ B) (hf : fr2 + 1 ≤ fr) (hlo2 : 8 + (maxL + 11) + lo2 ≤ lo) (hst : st = As.reverse ++ .ref k0 :: rest) (hc : sumcat rest ≤ 8) (k : V X Q h' (pc + 3) lv (rest)) : V X Q h pc lv st := by
  obtain ⟨p, e, R, s, m, args, below, meth, c, l, D, ad, cA, nh⟩ := X
  obtain ⟨hx, hb, hml, hown, hts, hret, hlocks, hK, hI, hN, hfr, hlo, hB⟩ := C
  intro H locs ls hP hS hl
  obtain ⟨m1, m2, m3, m4, m5⟩ := mk
  obtain ⟨o1, fl, o2⟩ := ok
  have he := WD_get (nh := nh) (ad := ad) (cA := cA) (h := h) (Nat.lt_of_lt_of_le o1 hB)
  rw [o2] at he
  cases hq : vwCl[ci]? with
  | none => rw [hq] at hci; cases hci
  | some q =>
    rw [hq] at hci
    have hcl : q.1 = y.cls := Option.some.inj hci
    subst hst
    have hG : GoodIn BW (wsV own i y.cls y (Cond.code y bytes maxL rt :: BW)) := by
      intro w hw
      rcases List.mem_append.mp hw with hw | hw
      · have hm : w ∈ BW := by
          simp only [List.mem_cons, List.not_mem_nil, or_false] at hw
          rcases hw with rfl | rfl | rfl | rfl
          · exact hl0
          · exact m1
          · exact m2
          · exact m3
        exact bw_in w hm
      · exact bw_cons m4 w hw
    refine va_callv (va_runV (C := y.cls) (As := As.map (tr ad)) (rest := rest.map (tr ad)) (b := ad k0) ⟨hx, hb, hml, hown, hts⟩ (hM (Nat.le_trans hB2 hB) H.size) (cwV n hts hG rfl rfl rfl ⟨rfl, m5.1, m5.2, hd⟩ ⟨Nat.le_trans hf hfr, Nat.le_trans hlo2 hlo⟩) ⟨WP_blind, by have := va_recv hK hP hq he; rwa [hcl] at this, fun U hU hW => ⟨rfl, by rw [hU], by rw [hU]; exact hP, va_K.moved hW.alike hK, hI, hN.1.warm hW, hN.2.move hS hU hW⟩⟩ rfl (by rw [List.length_map]; exact hn) (by show ls.size = nL; rw [hl.1, hml]) (by show List.map (tr ad) (As.reverse ++ .ref k0 :: rest) = (As.map (tr ad)).reverse ++ .ref (ad k0) :: rest.map (tr ad); rw [List.map_append, List.map_reverse]; rfl) (lv_room (by rw [sumcat_tr]; exact hc)) d ⟨Nat.zero_le _, Nat.zero_le _⟩) hS (fun q _ z => AD_le hS.1 q z) (AD_le hS.1) (fun u t H1 locs1 ht hvm hw hB hz hk hS1 => ?_)
    obtain ⟨hP1, hK1⟩ := hB
    rw [ht] at hP1
    exact k H1 locs1 ls hP1 hS1 hl
theorem V_statV (C : CX X B cc nL own ret fr lo) {y : MethodName} {bytes : ByteArray} {maxL : Nat} {rt : Option FieldType} {fr2 lo2 B2 : Nat} {i n : Nat} {As rest : List Value} (d : decode cc pc = .ok (.invokestatic i, 3)) (hl0 : Cond.methodLink own i y ∈ BW) (mk : MS y bytes maxL rt) (hM : MV (xE X) B2 y bytes maxL rt fr2 lo2 As h h') (hn : As.length = n) (hd : (parseMethodDescriptor y.desc).map (fun d => d.parameters.length) = some n) (hB2 : B2 ≤ B) (hf : fr2 + 1 ≤ fr) (hlo2 : 8 + (maxL + 11) + lo2 ≤ lo) (hst : st = As.reverse ++ rest) (hc : sumcat rest ≤ 8) (k : V X Q h' (pc + 3) lv (rest)) : V X Q h pc lv st := by
  obtain ⟨p, e, R, s, m, args, below, meth, c, l, D, ad, cA, nh⟩ := X
  obtain ⟨hx, hb, hml, hown, hts, hret, hlocks, hK, hI, hN, hfr, hlo, hB⟩ := C
  intro H locs ls hP hS hl
  obtain ⟨m1, m3, m4, m5⟩ := mk
  subst hst
  have hG : GoodIn BW (va_wsS own i y (Cond.code y bytes maxL rt :: BW)) := by
    intro w hw
    rcases List.mem_append.mp hw with hw | hw
    · have hm : w ∈ BW := by
        simp only [List.mem_cons, List.not_mem_nil, or_false] at hw
        rcases hw with rfl | rfl | rfl
        · exact hl0
        · exact m1
        · exact m3
      exact bw_in w hm
    · exact bw_cons m4 w hw
  refine va_callv (va_runS (As := As.map (tr ad)) (rest := rest.map (tr ad)) ⟨hx, hb, hml, hown, hts⟩ (hM (Nat.le_trans hB2 hB) H.size) (va_cwS n hts hG rfl rfl rfl ⟨m5.1, m5.2, hd⟩ ⟨Nat.le_trans hf hfr, Nat.le_trans hlo2 hlo⟩) ⟨WP_blind, fun U hU hW => ⟨rfl, by rw [hU], by rw [hU]; exact hP, va_K.moved hW.alike hK, hI, hN.1.warm hW, hN.2.move hS hU hW⟩⟩ rfl (by rw [List.length_map]; exact hn) (by show ls.size = nL; rw [hl.1, hml]) (by show List.map (tr ad) (As.reverse ++ rest) = (As.map (tr ad)).reverse ++ rest.map (tr ad); rw [List.map_append, List.map_reverse]) (lv_room (by rw [sumcat_tr]; exact hc)) d ⟨Nat.zero_le _, Nat.zero_le _⟩) hS (fun q _ z => AD_le hS.1 q z) (AD_le hS.1) (fun u t H1 locs1 ht hvm hw hB hz hk hS1 => ?_)
  obtain ⟨hP1, hK1⟩ := hB
  rw [ht] at hP1
  exact k H1 locs1 ls hP1 hS1 hl
end VC
