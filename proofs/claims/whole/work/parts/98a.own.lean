/-! the throwing look: what the tables say of the exception -/
def RNS : String := "java/util/NoSuchElementException"
def upNS : List String := ["java/lang/RuntimeException", "java/lang/Exception"]
def ir1 : Cond := .isRef (.static Bundle.tN "UNASSIGNED_STACK" Bundle.steD)
def ir2 : Cond := .isRef (.static Bundle.tN "SUPPRESSED_SENTINEL" Bundle.listD)
def kd : Cond → Bool
  | .declares _ => true
  | .castable .. => true
  | .laysStatic .. => true
  | .isRef (.static ..) => true
  | w => goodWord w
theorem ow_kd : (Bundle.ownAtoms0 RX11 152 RNS upNS).all kd = true := by decide +kernel
theorem ow_tbl : (Bundle.ownAtoms0 RX11 152 RNS upNS).all (fun a => lw_tbl.contains a || (a == ir1 || a == ir2)) = true := by decide +kernel
theorem ow_in : ∀ a ∈ Bundle.ownAtoms0 RX11 152 RNS upNS, a ∈ lw_tbl ∨ a = ir1 ∨ a = ir2 := fun a ha => by
  have h := List.all_eq_true.mp ow_tbl a ha
  simp only [Bool.or_eq_true, beq_iff_eq, List.contains_iff_mem] at h
  exact h
theorem ow_new : Cond.classLink RX11 150 RNS ∈ BW := List.mem_filter.mpr ⟨by decide +kernel, rfl⟩
theorem ow_ini : Cond.initialized RNS ∈ BW := List.mem_filter.mpr ⟨by decide +kernel, rfl⟩
theorem ow_cat : Cond.classLink RL 13 RNS ∈ BW := List.mem_filter.mpr ⟨by decide +kernel, rfl⟩
theorem ow_cw : Cond.codeWith yL_look cL_look 4 (some .int) [(0, 9, 12, 13)] ∈ BW := List.mem_filter.mpr ⟨by decide +kernel, rfl⟩
theorem ow_st : Cond.static yL_look ∈ BW := List.mem_filter.mpr ⟨by decide +kernel, rfl⟩
theorem ow_il : Cond.initialized RL ∈ BW := List.mem_filter.mpr ⟨by decide +kernel, rfl⟩
theorem ow_us : Cond.laysStatic Bundle.tN "UNASSIGNED_STACK" Bundle.steD ∈ lw_tbl := by decide +kernel
theorem ow_ss : Cond.laysStatic Bundle.tN "SUPPRESSED_SENTINEL" Bundle.listD ∈ lw_tbl := by decide +kernel
theorem ow_it : Cond.initialized Bundle.tN ∈ lw_tbl := by decide +kernel

theorem st_lays {u U : State} {A A' : Array Value} (hv : u.vm = U.vm) (hq : ∀ (q : Nat) (cell : Cell), u.heap[q]? = some cell → U.heap[q]? = some cell) {C n d : String} (h : (Cond.laysStatic C n d).before A u = true) : (Cond.laysStatic C n d).before A' U = true := by
  have e : U.fieldFound? C n d = u.fieldFound? C n d := by simp only [State.fieldFound?, hv]
  simp only [Cond.before, Cond.holds, Cond.value, e, ← hv] at h ⊢
  cases hc : u.vm.findClass C with
  | none => simp [hc] at h
  | some c =>
    cases hf : u.fieldFound? C n d with
    | none => simp [hc, hf] at h
    | some z =>
      obtain ⟨c', k, i, f⟩ := z
      simp only [hc, hf] at h ⊢
      cases hs : k.statics with
      | none => simp [hs] at h
      | some a =>
        cases hcell : u.heap[a]? with
        | none => simp [hs, hcell] at h
        | some cell =>
          simp only [hs, Option.bind_some, hcell, hq a cell hcell] at h ⊢
          exact h
theorem st_eval {u U : State} {A A' : Array Value} (hv : u.vm = U.vm) (hq : ∀ (q : Nat) (cell : Cell), u.heap[q]? = some cell → U.heap[q]? = some cell) {C n d : String} {v : Value} (h : (Term.static C n d).eval A u none [] u = some v) : (Term.static C n d).eval A' U none [] U = some v := by
  have e : U.fieldFound? C n d = u.fieldFound? C n d := by simp only [State.fieldFound?, hv]
  have e2 : U.fieldNamed? C n d true = u.fieldNamed? C n d true := by simp only [State.fieldNamed?, e]
  simp only [Term.eval, e2] at h ⊢
  cases hf : u.fieldNamed? C n d true with
  | none => simp [hf] at h
  | some z =>
    obtain ⟨c', k, sl⟩ := z
    cases hs : k.statics with
    | none => simp [hf, hs] at h
    | some a =>
      cases hcell : u.heap[a]? with
      | none => simp [hf, hs, hcell] at h
      | some cell =>
        simp [hf, hs, hcell] at h
        simp [hs, hq a cell hcell, h]
theorem st_ref {u U : State} {A A' : Array Value} (hv : u.vm = U.vm) (hq : ∀ (q : Nat) (cell : Cell), u.heap[q]? = some cell → U.heap[q]? = some cell) {C n d : String} (h : (Cond.isRef (.static C n d)).before A u = true) : (Cond.isRef (.static C n d)).before A' U = true := by
  cases hw : (Term.static C n d).eval A u none [] u with
  | none => simp [Cond.before, Cond.holds, Cond.value, hw] at h
  | some v =>
    have hw2 := st_eval (A' := A') hv hq hw
    simp only [Cond.before, Cond.holds, Cond.value, hw, hw2] at h ⊢
    exact h
theorem ow_move {s U : State} (hW : s.WarmedH U.vm) (hq : ∀ (q : Nat) (cell : Cell), s.heap[q]? = some cell → U.heap[q]? = some cell) {A A' : Array Value} {a : Cond} (hk : kd a = true) (h : a.before A s = true) : a.before A' U = true := by
  by_cases hg : goodWord a = true
  · exact word_at hW (good_of_word hg) h
  · have hf : a.keepsFace = true → a.before A (s.setVm U.vm) = true := fun z => Cond.before_shiftedFace (State.Shifted.of_warmed hW) a z h
    cases a
    case declares x => exact va_tabs rfl (rfl : (s.setVm U.vm).vm = U.vm) (hf rfl)
    case castable x y => exact va_tabs rfl (rfl : (s.setVm U.vm).vm = U.vm) (hf rfl)
    case laysStatic x y z => exact st_lays (u := s.setVm U.vm) (U := U) rfl hq (hf rfl)
    case isRef t =>
      cases t
      case static x y z => exact st_ref (u := s.setVm U.vm) (U := U) rfl hq (hf rfl)
      all_goals exact absurd hk hg
    all_goals exact absurd hk hg
def OWN (U : State) : Prop := ∀ (A : Array Value) (a : Cond), a ∈ Bundle.ownAtoms0 RX11 152 RNS upNS → a.before A U = true
theorem OWN.move {s U : State} (hO : OWN s) (hW : s.WarmedH U.vm) (hq : ∀ (q : Nat) (cell : Cell), s.heap[q]? = some cell → U.heap[q]? = some cell) : OWN U := fun A a ha => ow_move hW hq (List.all_eq_true.mp ow_kd a ha) (hO A a ha)
theorem OWN.blind {U : State} {g : JFrame} {mk : MethodId} {a : Array Value} (h : OWN U) : OWN (U.calling g mk a) := h.move (U := U.calling g mk a) (State.WarmedH.refl U) (fun _ _ z => z)
theorem OWN.of {s : State} {b : Nat} (hts : ∀ w ∈ lw_tbl, w.before #[Value.ref b] s = true) (hgv : (Jvm.Cond.and given_1 narrow_1).before #[Value.ref b] s = true) : OWN s := fun A a ha => by
  have hs := flat_of_before _ hgv
  refine ow_move (State.WarmedH.refl s) (fun _ _ z => z) (A := #[Value.ref b]) (List.all_eq_true.mp ow_kd a ha) ?_
  rcases ow_in a ha with h | h | h
  · exact hts a h
  · rw [h]; exact hs _ (by decide +kernel)
  · rw [h]; exact hs _ (by decide +kernel)
