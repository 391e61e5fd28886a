/-- an array of arrays of ty can be made: the word that va_mna wants; the printed names use it and nothing prints it -/
def va_AOA (ty : FieldType) (U : State) : Prop := (Cond.arrayOver (.array ty)).before #[] U = true
theorem va_AOA.use {ty : FieldType} {A : Array Value} {U : State} (h : va_AOA ty U) : (Cond.arrayOver (.array ty)).before A U = true := h
/-! ===== BEGIN words of one list among another's, by their places ===== -/
theorem goodIn_r {big : List Cond} (ws : List Cond) (ps : List Nat) (hp : ws = ps.filterMap (fun i => big[i]?)) (h : ws.all goodWord = true) : GoodIn big ws := by
  intro w hw
  have h1 := List.all_eq_true.mp h w hw
  rw [hp] at hw
  obtain ⟨i, -, hi⟩ := List.mem_filterMap.mp hw
  have hm : w ∈ big := by first | exact List.mem_of_getElem? hi | exact List.getElem?_mem hi
  exact ⟨hm, good_of_word h1⟩
theorem goodIn_app {big a b : List Cond} (ha : GoodIn big a) (hb : GoodIn big b) : GoodIn big (a ++ b) := fun w h => (List.mem_append.mp h).elim (ha w) (hb w)
theorem goodIn_ca {big a b : List Cond} {c : Cond} (ha : GoodIn big (c :: a)) (hb : GoodIn big b) : GoodIn big (c :: (a ++ b)) := fun w h => (List.mem_cons.mp h).elim (fun e => ha w (List.mem_cons.mpr (Or.inl e))) (fun h => (List.mem_append.mp h).elim (fun h => ha w (List.mem_cons.mpr (Or.inr h))) (hb w))
theorem goodIn_sub {big ws : List Cond} (hm : ∀ w ∈ ws, w ∈ big) (h : ws.all goodWord = true) : GoodIn big ws := fun w hw => ⟨hm w hw, good_of_word (List.all_eq_true.mp h w hw)⟩
/-! ===== END ===== -/

/-! ===== BEGIN new T[n][m]: the outer array a place, the inner ones among the pooled ===== -/
/-- f, but v at every address of l -/
def vr_up {α : Type} (f : Nat → α) (l : List Nat) (v : α) : Nat → α := fun a => if a ∈ l then v else f a
theorem vr_up_in {α : Type} {f : Nat → α} {l : List Nat} {v : α} {a : Nat} (h : a ∈ l) : vr_up f l v a = v := if_pos h
theorem vr_up_ne {α : Type} {f : Nat → α} {l : List Nat} {v : α} {a : Nat} (h : a ∉ l) : vr_up f l v a = f a := if_neg h
theorem vr_rows {L l : List Nat} {f : Nat → va_E} {e : va_E} (h : ∀ a, a ∈ l → a ∉ L) : va_pl L f ++ l.map (fun a => (a, e)) = va_pl (L ++ l) (vr_up f l e) := by
  unfold va_pl
  rw [List.map_append]
  congr 1
  · apply List.map_congr_left
    intro a ha
    rw [vr_up_ne (fun q => h a q ha)]
  · apply List.map_congr_left
    intro a ha
    rw [vr_up_in ha]
theorem vr_lay {X rows : va_W} {x : Nat × va_E} {pl : va_W} {D : va_G} {cl : List vw_C} {H : Heap} (hP : va_P D cl (((X ++ pl) ++ [x]) ++ rows) H) : va_P D cl ((X ++ [x]) ++ (pl ++ rows)) H := by
  rw [List.append_assoc (X ++ pl)] at hP
  have h := va_P.swap hP
  rw [← List.append_assoc X] at h
  have h2 := va_P.swap h
  rw [List.append_assoc (X ++ [x])] at h2
  exact h2
theorem vr_layD {X rows : va_W} {x : Nat × va_E} {pl : va_W} {A : Nat → Prop} (hD : va_D A (((X ++ pl) ++ [x]) ++ rows)) : va_D A ((X ++ [x]) ++ (pl ++ rows)) := by
  rw [List.append_assoc (X ++ pl)] at hD
  have h := va_D.swap hD
  rw [← List.append_assoc X] at h
  have h2 := va_D.swap h
  rw [List.append_assoc (X ++ [x])] at h2
  exact h2
theorem vr_outer (c : ClassId) (N h0 : Nat) : ∀ i : Nat, Jvm.Free.Multi.outerC c N h0 i = arrV c N (fun j => va_rf (if j < i then some (h0 + 1 + j) else none))
  | 0 => by
    show ({ cls := c, slots := Array.replicate N .null, vm := .none } : Cell) = _
    rw [arrV_new]
    refine congrArg (arrV c N) (funext fun j => ?_)
    simp [va_rf]
  | i + 1 => by
    show (Jvm.Free.Multi.outerC c N h0 i).setSlot i (.ref (h0 + 1 + i)) = _
    rw [vr_outer c N h0 i, arrV_store]
    refine congrArg (arrV c N) (funext fun j => ?_)
    by_cases e : j = i
    · subst e
      simp [updV, va_rf]
    · by_cases h : j < i
      · simp [updV, e, h, Nat.lt_succ_of_lt h]
      · simp [updV, e, h, show ¬ j < i + 1 by omega]
section VGM
variable {p : Program} {l : Launch} {e : Env} {R : Room} {s : State} {m : MethodId} {args : Array Value} {below : List Frame} {meth : Method} {c : Code} {H : Heap} {locs : List Loc} {cells slots : Nat} {Q : State → Prop}
variable {cc : ByteArray} {pc : Nat} {ls : Array Slot} {rest : List Value} {D : va_G} {cl : List vw_C} {A : Nat → Prop} {a : Nat} {tys : List (ClassId × FieldType)} {ws : va_W} {H0 : Heap}
theorem va_mna {X : va_W} {L : List Nat} {f : Nat → va_E} {cc : ByteArray} (hexec : p.tables.exec = Jvm.exec) (hb : c.code = cc) {own : String} {index : Nat} {ty : FieldType} {cy : ClassId} (hown : s.vm.findClass own = some m.cls) (hclink : (Cond.classLink own index ("[" ++ (FieldType.array ty).toString)).before args s = true) (hover : va_AOA ty s) (harr : (Cond.arrayClass ty).before args s = true) (hcy : s.vm.findClass (FieldType.array ty).toString = some cy)
    (hK : va_K D cl tys s) (hP : va_P D cl (X ++ va_pl L f) H) (hD : va_D A (X ++ va_pl L f)) (hS : va_S A H0 H locs) (hA : ∀ q, H0.size ≤ q → A q) {n k : Int32} {N' K' : Nat} {z : vp_A} (hn : ¬ n < 0) (hk : ¬ k < 0) (hN : n.toNatClampNeg = N') (hM : k.toNatClampNeg = K')
    (hb1 : N' * 4 ≤ 536870912) (hb2 : K' * componentBytes ty ≤ 536870912) (hb3 : K' ≤ 536870912) (hdf : fits ty (defaultValue ty) = true) (hdd : (defaultValue ty).isDefault = true) (hcells : cells + (1 + N') ≤ R.cells) (hslots : slots + (N' + N' * K') ≤ R.slots) (hz : ∀ c : ClassId, Jvm.Free.Multi.innerC c K' (defaultValue ty) = vp_cell c z) (hdg : decode cc pc = .ok (.multianewarray index 2, 4))
    (kk : ∀ (q : Nat) (r : Nat → Nat) (cA : ClassId) (H1 : Heap), (∀ i j : Nat, i < N' → j < N' → r i = r j → i = j) → (∀ i : Nat, i < N' → r i ∉ L) → va_K D cl (tys ++ [(cA, .array ty)]) s →
      va_P D cl ((X ++ [(q, .inl (cA, N', .inr (.inr (.inr (.inr (fun i => if i < N' then some (r i) else none))))))]) ++ va_pl (L ++ (List.range N').map r) (vr_up f ((List.range N').map r) (.inl (cy, z)))) H1 → va_D A ((X ++ [(q, .inl (cA, N', .inr (.inr (.inr (.inr (fun i => if i < N' then some (r i) else none))))))]) ++ va_pl (L ++ (List.range N').map r) (vr_up f ((List.range N').map r) (.inl (cy, z)))) → va_S A H0 H1 locs →
      W p l e R s m args below meth c H1 locs (cells + 1 + N') (slots + N' + N' * K') Q (F0 m (pc + 4) ls (.ref q :: rest))) : W p l e R s m args below meth c H locs cells slots Q (F0 m pc ls (.int k :: .int n :: rest)) := by
  subst hN
  subst hM
  intro T hT Xs
  obtain ⟨vm₁, cA, comp, -, fA, fC, hO, -, X', step⟩ := Xs.multianewarray2F hexec hown hclink (va_AOA.use hover) harr (g := F0 m pc ls (.int k :: .int n :: rest)) rfl (by rw [hb]; exact hdg) rfl hn hk hb1 hb2 hb3 hdf hdd hcells hslots
  have ec : some cy = some comp := hcy.symm.trans fC
  cases ec
  generalize hF : Jvm.Free.Multi.fill (T.setVm vm₁) cA cy n.toNatClampNeg k.toNatClampNeg (defaultValue ty) n.toNatClampNeg = F at X' step
  have hTh : (T.setVm vm₁).heap = H := hT
  obtain ⟨f1, f2, -, -⟩ := Jvm.Free.Multi.fill_facts (T.setVm vm₁) cA cy n.toNatClampNeg k.toNatClampNeg (defaultValue ty) n.toNatClampNeg
  rw [hF, hTh] at f1 f2
  have hold : ∀ x : Nat, x < H.size → F.heap[x]? = H[x]? := fun x hx => by
    have := Jvm.Free.Multi.fill_old (T.setVm vm₁) cA cy n.toNatClampNeg k.toNatClampNeg (defaultValue ty) (a := x) (by rw [hTh]; exact hx) n.toNatClampNeg
    rw [hF, hTh] at this
    exact this
  have hrow : ∀ j : Nat, j < n.toNatClampNeg → F.heap[H.size + 1 + j]? = some (vp_cell cy z) := fun j hj => by
    have := Jvm.Free.Multi.fill_inner (T.setVm vm₁) cA cy n.toNatClampNeg k.toNatClampNeg (defaultValue ty) n.toNatClampNeg j hj
    rw [hF, hTh, hz] at this
    exact this
  have hout : Jvm.Free.Multi.outerC cA n.toNatClampNeg H.size n.toNatClampNeg = vp_cell cA (n.toNatClampNeg, .inr (.inr (.inr (.inr (fun i => if i < n.toNatClampNeg then some (H.size + 1 + i) else none))))) := by
    rw [vp_cell_q]
    exact vr_outer cA n.toNatClampNeg H.size n.toNatClampNeg
  rw [hout] at f2
  have hlt : ∀ a, a ∈ L → a < H.size := fun a ha => by
    obtain ⟨k9, hk9⟩ := va_pl_get (X := X) (f := f) ha
    exact (hP k9 _ hk9).lt
  have hnl : ∀ i : Nat, i < n.toNatClampNeg → H.size + 1 + i ∉ L := fun i _ h => by
    have := hlt _ h
    omega
  have hnm : ∀ a, a ∈ (List.range n.toNatClampNeg).map (fun i => H.size + 1 + i) → a ∉ L := fun a ha h => by
    obtain ⟨i, -, rfl⟩ := List.mem_map.mp ha
    have := hlt _ h
    omega
  have hP0 : va_P D cl (X ++ va_pl L f) F.heap := hP.kept (fun k9 x hx => hold x.1 ((hP k9 x hx).lt))
  have hP1 : va_P D cl ((X ++ va_pl L f) ++ [(H.size, .inl (cA, n.toNatClampNeg, .inr (.inr (.inr (.inr (fun i => if i < n.toNatClampNeg then some (H.size + 1 + i) else none))))))]) F.heap := hP0.app (fun k9 x hx => by
    have h0 : k9 < 1 := (List.getElem?_eq_some_iff.mp hx).1
    rw [show k9 = 0 by omega] at hx
    cases hx
    exact f2)
  have hP2 : va_P D cl (((X ++ va_pl L f) ++ [(H.size, .inl (cA, n.toNatClampNeg, .inr (.inr (.inr (.inr (fun i => if i < n.toNatClampNeg then some (H.size + 1 + i) else none))))))]) ++ ((List.range n.toNatClampNeg).map (fun i => H.size + 1 + i)).map (fun a => (a, .inl (cy, z)))) F.heap := hP1.app (fun k9 x hx => by
    obtain ⟨a, ha, rfl⟩ := List.mem_map.mp (List.mem_of_getElem? hx)
    obtain ⟨i, hi, rfl⟩ := List.mem_map.mp ha
    exact hrow i (List.mem_range.mp hi))
  have hD2 : va_D A (((X ++ va_pl L f) ++ [(H.size, .inl (cA, n.toNatClampNeg, .inr (.inr (.inr (.inr (fun i => if i < n.toNatClampNeg then some (H.size + 1 + i) else none))))))]) ++ ((List.range n.toNatClampNeg).map (fun i => H.size + 1 + i)).map (fun a => (a, .inl (cy, z)))) := by
    have hD1 := hD.push (e := .inl (cA, n.toNatClampNeg, .inr (.inr (.inr (.inr (fun i => if i < n.toNatClampNeg then some (H.size + 1 + i) else none)))))) hP rfl (hA _ hS.1)
    generalize hW1 : (X ++ va_pl L f) ++ [(H.size, .inl (cA, n.toNatClampNeg, .inr (.inr (.inr (.inr (fun i => if i < n.toNatClampNeg then some (H.size + 1 + i) else none))))))] = W1 at hD1 hP1 ⊢
    have hle : ∀ (k9 : Nat) (x : Nat × va_E), W1[k9]? = some x → x.1 ≤ H.size := fun k9 x hx => by
      rw [← hW1] at hx
      by_cases hl : k9 < (X ++ va_pl L f).length
      · rw [List.getElem?_append_left hl] at hx
        exact Nat.le_of_lt ((hP k9 x hx).lt)
      · rw [List.getElem?_append_right (by omega)] at hx
        have h0 : k9 - (X ++ va_pl L f).length < 1 := (List.getElem?_eq_some_iff.mp hx).1
        rw [show k9 - (X ++ va_pl L f).length = 0 by omega] at hx
        cases hx
        exact Nat.le_refl _
    have hr : ∀ (k9 : Nat) (x : Nat × va_E), (((List.range n.toNatClampNeg).map (fun i => H.size + 1 + i)).map (fun a => ((a, .inl (cy, z)) : Nat × va_E)))[k9]? = some x → x.1 = H.size + 1 + k9 := fun k9 x hx => by
      rw [List.getElem?_map, List.getElem?_map] at hx
      by_cases h9 : k9 < n.toNatClampNeg
      · rw [List.getElem?_range h9] at hx
        cases hx
        rfl
      · have hn0 : (List.range n.toNatClampNeg)[k9]? = none := List.getElem?_eq_none (by rw [List.length_range]; omega)
        rw [hn0] at hx
        cases hx
    refine ⟨fun i j x y hi hj hxy => ?_, fun k9 x hx => ?_⟩
    · by_cases h1 : i < W1.length <;> by_cases h2 : j < W1.length
      · rw [List.getElem?_append_left h1] at hi
        rw [List.getElem?_append_left h2] at hj
        exact hD1.1 i j x y hi hj hxy
      · rw [List.getElem?_append_left h1] at hi
        rw [List.getElem?_append_right (by omega)] at hj
        have := hle _ _ hi
        have := hr _ _ hj
        omega
      · rw [List.getElem?_append_right (by omega)] at hi
        rw [List.getElem?_append_left h2] at hj
        have := hle _ _ hj
        have := hr _ _ hi
        omega
      · rw [List.getElem?_append_right (by omega)] at hi hj
        have := hr _ _ hi
        have := hr _ _ hj
        omega
    · by_cases h1 : k9 < W1.length
      · rw [List.getElem?_append_left h1] at hx
        exact hD1.2 k9 x hx
      · rw [List.getElem?_append_right (by omega)] at hx
        have := hr _ _ hx
        exact hA _ (by have := hS.1; omega)
  have hAr : ArrOfT s cA (.array ty) := fun N9 z9 => by
    obtain ⟨-, k9, hk9, cm9, hkk9⟩ := (hO 0 0 0).1
    exact ⟨(fun q hq => by cases hq), k9, hk9, cm9, hkk9⟩
  have hK2 : va_K D cl (tys ++ [(cA, .array ty)]) s := ⟨hK.1, fun k9 x hx => by
    by_cases hl : k9 < tys.length
    · rw [List.getElem?_append_left hl] at hx
      exact hK.2 k9 x hx
    · rw [List.getElem?_append_right (by omega)] at hx
      have h0 : k9 - tys.length < 1 := (List.getElem?_eq_some_iff.mp hx).1
      rw [show k9 - tys.length = 0 by omega] at hx
      cases hx
      exact ⟨hAr, fA⟩⟩
  obtain ⟨t, a1, b1⟩ := kk H.size (fun i => H.size + 1 + i) cA F.heap (fun i j _ _ h => by have h9 : H.size + 1 + i = H.size + 1 + j := h; omega) hnl hK2 (by rw [← vr_rows hnm]; exact vr_lay hP2) (by rw [← vr_rows hnm]; exact vr_layD hD2) ⟨by rw [f1]; have := hS.1; omega, fun x h1 h2 => (hold x (Nat.lt_of_lt_of_le h1 hS.1)).trans (hS.2.1 x h1 h2), hS.2.2⟩ F rfl X'
  refine ⟨t, step t ?_, b1⟩
  have e : T.heap.size = H.size := by rw [hT]
  rw [e]
  exact a1
end VGM
/-! ===== END ===== -/

def RX0 : String := "OldLift$Atlas"
def TX0 : u_T := fun k => match k with
  | 0 => ("OldLift$Atlas", "machine", "LOldLift$Machine;", true)
  | 1 => ("OldLift$Atlas", "breaker", "[I", true)
  | 2 => ("OldLift$Atlas", "forgetter", "[[I", true)
  | 3 => ("OldLift$Atlas", "state", "[I", true)
  | 4 => ("OldLift$Atlas", "number", "[I", true)
  | 5 => ("OldLift$Atlas", "parent", "[I", true)
  | 6 => ("OldLift$Atlas", "button", "[I", true)
  | 7 => ("OldLift$Atlas", "depth", "[I", true)
  | 8 => ("OldLift$Atlas", "lamps", "[I", true)
  | 9 => ("OldLift$Atlas", "next", "[I", true)
  | 10 => ("OldLift$Atlas", "patienceFrom", "[I", true)
  | 11 => ("OldLift$Atlas", "path", "[I", true)
  | 12 => ("OldLift$Atlas", "known", "Z", false)
  | _ => ("OldLift$Atlas", "size", "I", false)
def tyX0 : Nat → FieldType := fun k => match k with
  | 0 => .object "OldLift$Machine"
  | 1 => .array .int
  | 2 => .array (.array .int)
  | 3 => .array .int
  | 4 => .array .int
  | 5 => .array .int
  | 6 => .array .int
  | 7 => .array .int
  | 8 => .array .int
  | 9 => .array .int
  | 10 => .array .int
  | 11 => .array .int
  | 12 => .boolean
  | _ => .int
abbrev wsX00 : List Cond := u_ws RX0 TX0 14
theorem nmX0 : ∀ a, a < 14 → ∀ b, b < 14 → a ≠ b → (TX0 a).2.1 ≠ (TX0 b).2.1 := by decide +kernel
theorem tyX0_ok : ∀ k, k < 14 → parseFieldDescriptor (TX0 k).2.2.1 = some (tyX0 k) := by decide +kernel
abbrev cX0_init : ByteArray := prog_2_method_1_code
def yX0_init : MethodName := ⟨RX0, "<init>", "(LOldLift$Machine;)V"⟩
abbrev cX0_forget : ByteArray := prog_2_method_2_code
def yX0_forget : MethodName := ⟨RX0, "forget", "()V"⟩
abbrev cX0_howMany : ByteArray := prog_2_method_3_code
def yX0_howMany : MethodName := ⟨RX0, "howMany", "()I"⟩
abbrev cX0_stateAt : ByteArray := prog_2_method_4_code
def yX0_stateAt : MethodName := ⟨RX0, "stateAt", "(I)I"⟩
abbrev cX0_lampsAt : ByteArray := prog_2_method_5_code
def yX0_lampsAt : MethodName := ⟨RX0, "lampsAt", "(I)I"⟩
abbrev cX0_behind : ByteArray := prog_2_method_6_code
def yX0_behind : MethodName := ⟨RX0, "behind", "(II)I"⟩
abbrev cX0_choices : ByteArray := prog_2_method_7_code
def yX0_choices : MethodName := ⟨RX0, "choices", "()I"⟩
abbrev cX0_explore : ByteArray := prog_2_method_8_code
def yX0_explore : MethodName := ⟨RX0, "explore", "()V"⟩
abbrev cX0_find : ByteArray := prog_2_method_9_code
def yX0_find : MethodName := ⟨RX0, "find", "(III)I"⟩
abbrev cX0_rowLength : ByteArray := prog_2_method_10_code
def yX0_rowLength : MethodName := ⟨RX0, "rowLength", "(I)I"⟩
abbrev cX0_rowButton : ByteArray := prog_2_method_11_code
def yX0_rowButton : MethodName := ⟨RX0, "rowButton", "(II)I"⟩
abbrev cX0_breakerOf : ByteArray := prog_2_method_12_code
def yX0_breakerOf : MethodName := ⟨RX0, "breakerOf", "(I)I"⟩
abbrev cX0_forgetterOf : ByteArray := prog_2_method_13_code
def yX0_forgetterOf : MethodName := ⟨RX0, "forgetterOf", "(II)I"⟩
abbrev cX0_findForgetters : ByteArray := prog_2_method_14_code
def yX0_findForgetters : MethodName := ⟨RX0, "findForgetters", "(I)V"⟩
abbrev cX0_ticksUntilOpen : ByteArray := prog_2_method_15_code
def yX0_ticksUntilOpen : MethodName := ⟨RX0, "ticksUntilOpen", "(II)I"⟩
abbrev cX0_isOpenAt : ByteArray := prog_2_method_16_code
def yX0_isOpenAt : MethodName := ⟨RX0, "isOpenAt", "(II)Z"⟩
def RX1 : String := "OldLift$Choice"
def TX1 : u_T := fun k => match k with
  | 0 => ("OldLift$Choice", "least", "[I", true)
  | 1 => ("OldLift$Choice", "way", "[I", true)
  | 2 => ("OldLift$Choice", "plan", "LOldLift$Plan;", true)
  | 3 => ("OldLift$Choice", "probe", "LOldLift$Trial;", true)
  | _ => ("OldLift$Choice", "weighed", "I", false)
def tyX1 : Nat → FieldType := fun k => match k with
  | 0 => .array .int
  | 1 => .array .int
  | 2 => .object "OldLift$Plan"
  | 3 => .object "OldLift$Trial"
  | _ => .int
abbrev wsX10 : List Cond := u_ws RX1 TX1 5
theorem nmX1 : ∀ a, a < 5 → ∀ b, b < 5 → a ≠ b → (TX1 a).2.1 ≠ (TX1 b).2.1 := by decide +kernel
theorem tyX1_ok : ∀ k, k < 5 → parseFieldDescriptor (TX1 k).2.2.1 = some (tyX1 k) := by decide +kernel
abbrev cX1_init : ByteArray := prog_3_method_1_code
def yX1_init : MethodName := ⟨RX1, "<init>", "(LOldLift$Plan;)V"⟩
abbrev cX1_weighAll : ByteArray := prog_3_method_2_code
def yX1_weighAll : MethodName := ⟨RX1, "weighAll", "()V"⟩
abbrev cX1_weigh : ByteArray := prog_3_method_3_code
def yX1_weigh : MethodName := ⟨RX1, "weigh", "(III)V"⟩
def RX2 : String := "OldLift$Code"
def TX2 : u_T := fun k => match k with
  | 0 => ("OldLift$Code", "facts", "[I", true)
  | 1 => ("OldLift$Code", "nevers", "I", false)
  | 2 => ("OldLift$Code", "ops", "[I", true)
  | 3 => ("OldLift$Code", "begin", "[I", true)
  | 4 => ("OldLift$Code", "end", "[I", true)
  | 5 => ("OldLift$Code", "stack", "[I", true)
  | _ => ("OldLift$Code", "size", "I", false)
def tyX2 : Nat → FieldType := fun k => match k with
  | 0 => .array .int
  | 1 => .int
  | 2 => .array .int
  | 3 => .array .int
  | 4 => .array .int
  | 5 => .array .int
  | _ => .int
abbrev wsX20 : List Cond := u_ws RX2 TX2 7
theorem nmX2 : ∀ a, a < 7 → ∀ b, b < 7 → a ≠ b → (TX2 a).2.1 ≠ (TX2 b).2.1 := by decide +kernel
theorem tyX2_ok : ∀ k, k < 7 → parseFieldDescriptor (TX2 k).2.2.1 = some (tyX2 k) := by decide +kernel
abbrev cX2_init : ByteArray := prog_4_method_1_code
def yX2_init : MethodName := ⟨RX2, "<init>", "()V"⟩
abbrev cX2_clear : ByteArray := prog_4_method_2_code
def yX2_clear : MethodName := ⟨RX2, "clear", "()V"⟩
abbrev cX2_copy : ByteArray := prog_4_method_3_code
def yX2_copy : MethodName := ⟨RX2, "copy", "(LOldLift$Code;)V"⟩
abbrev cX2_add : ByteArray := prog_4_method_4_code
def yX2_add : MethodName := ⟨RX2, "add", "(II)V"⟩
abbrev cX2_beginLine : ByteArray := prog_4_method_5_code
def yX2_beginLine : MethodName := ⟨RX2, "beginLine", "(I)V"⟩
abbrev cX2_endLine : ByteArray := prog_4_method_6_code
def yX2_endLine : MethodName := ⟨RX2, "endLine", "(I)V"⟩
abbrev cX2_isTold : ByteArray := prog_4_method_7_code
def yX2_isTold : MethodName := ⟨RX2, "isTold", "(I)Z"⟩
abbrev cX2_value : ByteArray := prog_4_method_8_code
def yX2_value : MethodName := ⟨RX2, "value", "(II)I"⟩
abbrev cX2_leaf : ByteArray := prog_4_method_9_code
def yX2_leaf : MethodName := ⟨RX2, "leaf", "(III)I"⟩
abbrev cX2_joined : ByteArray := prog_4_method_10_code
def yX2_joined : MethodName := ⟨RX2, "joined", "(III)I"⟩
def RX3 : String := "OldLift$Guess"
def TX3 : u_T := fun k => match k with
  | 0 => ("OldLift$Guess", "begun", "Z", false)
  | 1 => ("OldLift$Guess", "size", "I", false)
  | 2 => ("OldLift$Guess", "need", "I", false)
  | 3 => ("OldLift$Guess", "opening", "I", false)
  | 4 => ("OldLift$Guess", "atlas", "LOldLift$Atlas;", true)
  | 5 => ("OldLift$Guess", "lampMark", "[I", true)
  | 6 => ("OldLift$Guess", "lampNote", "[I", true)
  | 7 => ("OldLift$Guess", "held", "[I", true)
  | 8 => ("OldLift$Guess", "mark", "[I", true)
  | 9 => ("OldLift$Guess", "image", "[I", true)
  | 10 => ("OldLift$Guess", "members", "[[I", true)
  | 11 => ("OldLift$Guess", "ends", "[[I", true)
  | 12 => ("OldLift$Guess", "planned", "Z", false)
  | _ => ("OldLift$Guess", "stamp", "I", false)
def tyX3 : Nat → FieldType := fun k => match k with
  | 0 => .boolean
  | 1 => .int
  | 2 => .int
  | 3 => .int
  | 4 => .object "OldLift$Atlas"
  | 5 => .array .int
  | 6 => .array .int
  | 7 => .array .int
  | 8 => .array .int
  | 9 => .array .int
  | 10 => .array (.array .int)
  | 11 => .array (.array .int)
  | 12 => .boolean
  | _ => .int
abbrev wsX30 : List Cond := u_ws RX3 TX3 14
theorem nmX3 : ∀ a, a < 14 → ∀ b, b < 14 → a ≠ b → (TX3 a).2.1 ≠ (TX3 b).2.1 := by decide +kernel
theorem tyX3_ok : ∀ k, k < 14 → parseFieldDescriptor (TX3 k).2.2.1 = some (tyX3 k) := by decide +kernel
abbrev cX3_init : ByteArray := prog_5_method_1_code
def yX3_init : MethodName := ⟨RX3, "<init>", "(LOldLift$Atlas;)V"⟩
abbrev cX3_forget : ByteArray := prog_5_method_2_code
def yX3_forget : MethodName := ⟨RX3, "forget", "()V"⟩
abbrev cX3_start : ByteArray := prog_5_method_3_code
def yX3_start : MethodName := ⟨RX3, "start", "(I)I"⟩
abbrev cX3_follow : ByteArray := prog_5_method_4_code
def yX3_follow : MethodName := ⟨RX3, "follow", "(II)I"⟩
abbrev cX3_summary : ByteArray := prog_5_method_5_code
def yX3_summary : MethodName := ⟨RX3, "summary", "(I)I"⟩
abbrev cX3_plan : ByteArray := prog_5_method_6_code
def yX3_plan : MethodName := ⟨RX3, "plan", "()V"⟩
abbrev cX3_oneFloor : ByteArray := prog_5_method_7_code
def yX3_oneFloor : MethodName := ⟨RX3, "oneFloor", "([III)Z"⟩
abbrev cX3_floorAt : ByteArray := prog_5_method_8_code
def yX3_floorAt : MethodName := ⟨RX3, "floorAt", "(I)I"⟩
abbrev cX3_tells : ByteArray := prog_5_method_9_code
def yX3_tells : MethodName := ⟨RX3, "tells", "([IIIII)Z"⟩
abbrev cX3_canTell : ByteArray := prog_5_method_10_code
def yX3_canTell : MethodName := ⟨RX3, "canTell", "([IIII)Z"⟩
abbrev cX3_tellsAtOnce : ByteArray := prog_5_method_11_code
def yX3_tellsAtOnce : MethodName := ⟨RX3, "tellsAtOnce", "([IIII)Z"⟩
abbrev cX3_split : ByteArray := prog_5_method_12_code
def yX3_split : MethodName := ⟨RX3, "split", "([IIIII)I"⟩
abbrev cX3_sizesToBegins : ByteArray := prog_5_method_13_code
def yX3_sizesToBegins : MethodName := ⟨RX3, "sizesToBegins", "([II)V"⟩
def RX4 : String := "OldLift$Machine"
def TX4 : u_T := fun k => match k with
  | 0 => ("OldLift$Machine", "lines", "LOldLift$Code;", true)
  | 1 => ("OldLift$Machine", "floors", "I", false)
  | 2 => ("OldLift$Machine", "now", "I", false)
  | 3 => ("OldLift$Machine", "bumps", "I", false)
  | _ => ("OldLift$Machine", "ticks", "I", false)
def tyX4 : Nat → FieldType := fun k => match k with
  | 0 => .object "OldLift$Code"
  | 1 => .int
  | 2 => .int
  | 3 => .int
  | _ => .int
abbrev wsX40 : List Cond := u_ws RX4 TX4 5
theorem nmX4 : ∀ a, a < 5 → ∀ b, b < 5 → a ≠ b → (TX4 a).2.1 ≠ (TX4 b).2.1 := by decide +kernel
theorem tyX4_ok : ∀ k, k < 5 → parseFieldDescriptor (TX4 k).2.2.1 = some (tyX4 k) := by decide +kernel
abbrev cX4_init : ByteArray := prog_6_method_1_code
def yX4_init : MethodName := ⟨RX4, "<init>", "()V"⟩
abbrev cX4_restart : ByteArray := prog_6_method_2_code
def yX4_restart : MethodName := ⟨RX4, "restart", "()V"⟩
abbrev cX4_isButton : ByteArray := prog_6_method_3_code
def yX4_isButton : MethodName := ⟨RX4, "isButton", "(I)Z"⟩
abbrev cX4_tick : ByteArray := prog_6_method_4_code
def yX4_tick : MethodName := ⟨RX4, "tick", "(I)I"⟩
abbrev cX4_step : ByteArray := prog_6_method_5_code
def yX4_step : MethodName := ⟨RX4, "step", "(II)I"⟩
abbrev cX4_shifted : ByteArray := prog_6_method_6_code
def yX4_shifted : MethodName := ⟨RX4, "shifted", "(II)I"⟩
abbrev cX4_factsOf : ByteArray := prog_6_method_7_code
def yX4_factsOf : MethodName := ⟨RX4, "factsOf", "(II)I"⟩
abbrev cX4_lampsIn : ByteArray := prog_6_method_8_code
def yX4_lampsIn : MethodName := ⟨RX4, "lampsIn", "(I)I"⟩
abbrev cX4_breaksNever : ByteArray := prog_6_method_9_code
def yX4_breaksNever : MethodName := ⟨RX4, "breaksNever", "(II)Z"⟩
def RX5 : String := "OldLift$Parser"
def TX5 : u_T := fun k => match k with
  | 0 => ("OldLift$Parser", "draft", "LOldLift$Code;", true)
  | 1 => ("OldLift$Parser", "tokens", "LOldLift$Tokens;", true)
  | 2 => ("OldLift$Parser", "at", "I", false)
  | 3 => ("OldLift$Parser", "kind", "I", false)
  | 4 => ("OldLift$Parser", "value", "I", false)
  | 5 => ("OldLift$Parser", "fault", "I", false)
  | 6 => ("OldLift$Parser", "floors", "I", false)
  | _ => ("OldLift$Parser", "forRule", "Z", false)
def tyX5 : Nat → FieldType := fun k => match k with
  | 0 => .object "OldLift$Code"
  | 1 => .object "OldLift$Tokens"
  | 2 => .int
  | 3 => .int
  | 4 => .int
  | 5 => .int
  | 6 => .int
  | _ => .boolean
abbrev wsX50 : List Cond := u_ws RX5 TX5 8
theorem nmX5 : ∀ a, a < 8 → ∀ b, b < 8 → a ≠ b → (TX5 a).2.1 ≠ (TX5 b).2.1 := by decide +kernel
theorem tyX5_ok : ∀ k, k < 8 → parseFieldDescriptor (TX5 k).2.2.1 = some (tyX5 k) := by decide +kernel
abbrev cX5_init : ByteArray := prog_7_method_1_code
def yX5_init : MethodName := ⟨RX5, "<init>", "(LOldLift$Tape;)V"⟩
abbrev cX5_readCircuit : ByteArray := prog_7_method_2_code
def yX5_readCircuit : MethodName := ⟨RX5, "readCircuit", "(I)I"⟩
abbrev cX5_readRule : ByteArray := prog_7_method_3_code
def yX5_readRule : MethodName := ⟨RX5, "readRule", "()I"⟩
abbrev cX5_start : ByteArray := prog_7_method_4_code
def yX5_start : MethodName := ⟨RX5, "start", "(ZI)V"⟩
abbrev cX5_advance : ByteArray := prog_7_method_5_code
def yX5_advance : MethodName := ⟨RX5, "advance", "()V"⟩
abbrev cX5_blame : ByteArray := prog_7_method_6_code
def yX5_blame : MethodName := ⟨RX5, "blame", "(I)V"⟩
abbrev cX5_expect : ByteArray := prog_7_method_7_code
def yX5_expect : MethodName := ⟨RX5, "expect", "(I)V"⟩
abbrev cX5_circuitLine : ByteArray := prog_7_method_8_code
def yX5_circuitLine : MethodName := ⟨RX5, "circuitLine", "()V"⟩
abbrev cX5_lineTold : ByteArray := prog_7_method_9_code
def yX5_lineTold : MethodName := ⟨RX5, "lineTold", "()I"⟩
abbrev cX5_once : ByteArray := prog_7_method_10_code
def yX5_once : MethodName := ⟨RX5, "once", "(I)I"⟩
abbrev cX5_refused : ByteArray := prog_7_method_11_code
def yX5_refused : MethodName := ⟨RX5, "refused", "(I)I"⟩
abbrev cX5_expression : ByteArray := prog_7_method_12_code
def yX5_expression : MethodName := ⟨RX5, "expression", "(II)V"⟩
abbrev cX5_levelOf : ByteArray := prog_7_method_13_code
def yX5_levelOf : MethodName := ⟨RX5, "levelOf", "(I)I"⟩
abbrev cX5_part : ByteArray := prog_7_method_14_code
def yX5_part : MethodName := ⟨RX5, "part", "(I)V"⟩
abbrev cX5_beginsPart : ByteArray := prog_7_method_15_code
def yX5_beginsPart : MethodName := ⟨RX5, "beginsPart", "(I)Z"⟩
abbrev cX5_fact : ByteArray := prog_7_method_16_code
def yX5_fact : MethodName := ⟨RX5, "fact", "(I)V"⟩
abbrev cX5_floorFact : ByteArray := prog_7_method_17_code
def yX5_floorFact : MethodName := ⟨RX5, "floorFact", "(I)V"⟩
def RX6 : String := "OldLift$Plan"
def TX6 : u_T := fun k => match k with
  | 0 => ("OldLift$Plan", "rule", "LOldLift$Code;", true)
  | 1 => ("OldLift$Plan", "comes", "[I", true)
  | 2 => ("OldLift$Plan", "from", "[I", true)
  | 3 => ("OldLift$Plan", "to", "[I", true)
  | 4 => ("OldLift$Plan", "holdTime", "[I", true)
  | 5 => ("OldLift$Plan", "holdCar", "[I", true)
  | 6 => ("OldLift$Plan", "holdTicks", "[I", true)
  | 7 => ("OldLift$Plan", "floors", "I", false)
  | 8 => ("OldLift$Plan", "cars", "I", false)
  | 9 => ("OldLift$Plan", "room", "I", false)
  | 10 => ("OldLift$Plan", "doors", "I", false)
  | 11 => ("OldLift$Plan", "park", "I", false)
  | 12 => ("OldLift$Plan", "persons", "I", false)
  | 13 => ("OldLift$Plan", "holds", "I", false)
  | 14 => ("OldLift$Plan", "fireTime", "I", false)
  | 15 => ("OldLift$Plan", "changes", "I", false)
  | _ => ("OldLift$Plan", "rulings", "I", false)
def tyX6 : Nat → FieldType := fun k => match k with
  | 0 => .object "OldLift$Code"
  | 1 => .array .int
  | 2 => .array .int
  | 3 => .array .int
  | 4 => .array .int
  | 5 => .array .int
  | 6 => .array .int
  | 7 => .int
  | 8 => .int
  | 9 => .int
  | 10 => .int
  | 11 => .int
  | 12 => .int
  | 13 => .int
  | 14 => .int
  | 15 => .int
  | _ => .int
abbrev wsX60 : List Cond := u_ws RX6 TX6 17
theorem nmX6 : ∀ a, a < 17 → ∀ b, b < 17 → a ≠ b → (TX6 a).2.1 ≠ (TX6 b).2.1 := by decide +kernel
theorem tyX6_ok : ∀ k, k < 17 → parseFieldDescriptor (TX6 k).2.2.1 = some (tyX6 k) := by decide +kernel
abbrev cX6_init : ByteArray := prog_8_method_1_code
def yX6_init : MethodName := ⟨RX6, "<init>", "()V"⟩
abbrev cX6_startHouse : ByteArray := prog_8_method_2_code
def yX6_startHouse : MethodName := ⟨RX6, "startHouse", "(I)V"⟩
abbrev cX6_setRule : ByteArray := prog_8_method_3_code
def yX6_setRule : MethodName := ⟨RX6, "setRule", "(LOldLift$Code;)V"⟩
abbrev cX6_tellings : ByteArray := prog_8_method_4_code
def yX6_tellings : MethodName := ⟨RX6, "tellings", "()I"⟩
abbrev cX6_setCars : ByteArray := prog_8_method_5_code
def yX6_setCars : MethodName := ⟨RX6, "setCars", "(IIII)V"⟩
abbrev cX6_addPerson : ByteArray := prog_8_method_6_code
def yX6_addPerson : MethodName := ⟨RX6, "addPerson", "(III)I"⟩
abbrev cX6_addHold : ByteArray := prog_8_method_7_code
def yX6_addHold : MethodName := ⟨RX6, "addHold", "(III)Z"⟩
abbrev cX6_setFire : ByteArray := prog_8_method_8_code
def yX6_setFire : MethodName := ⟨RX6, "setFire", "(I)V"⟩
abbrev cX6_dismiss : ByteArray := prog_8_method_9_code
def yX6_dismiss : MethodName := ⟨RX6, "dismiss", "()V"⟩
abbrev cX6_burns : ByteArray := prog_8_method_10_code
def yX6_burns : MethodName := ⟨RX6, "burns", "(I)Z"⟩
abbrev cX6_nextComing : ByteArray := prog_8_method_11_code
def yX6_nextComing : MethodName := ⟨RX6, "nextComing", "(I)I"⟩
def RX7 : String := "OldLift$Rope"
def TX7 : u_T := fun k => match k with
  | 0 => ("OldLift$Rope", "lines", "I", false)
  | 1 => ("OldLift$Rope", "low", "[I", true)
  | 2 => ("OldLift$Rope", "high", "[I", true)
  | 3 => ("OldLift$Rope", "counted", "[I", true)
  | 4 => ("OldLift$Rope", "slip", "I", false)
  | 5 => ("OldLift$Rope", "life", "I", false)
  | _ => ("OldLift$Rope", "days", "I", false)
def tyX7 : Nat → FieldType := fun k => match k with
  | 0 => .int
  | 1 => .array .int
  | 2 => .array .int
  | 3 => .array .int
  | 4 => .int
  | 5 => .int
  | _ => .int
abbrev wsX70 : List Cond := u_ws RX7 TX7 7
theorem nmX7 : ∀ a, a < 7 → ∀ b, b < 7 → a ≠ b → (TX7 a).2.1 ≠ (TX7 b).2.1 := by decide +kernel
theorem tyX7_ok : ∀ k, k < 7 → parseFieldDescriptor (TX7 k).2.2.1 = some (tyX7 k) := by decide +kernel
abbrev cX7_init : ByteArray := prog_9_method_1_code
def yX7_init : MethodName := ⟨RX7, "<init>", "()V"⟩
abbrev cX7_clear : ByteArray := prog_9_method_2_code
def yX7_clear : MethodName := ⟨RX7, "clear", "()V"⟩
abbrev cX7_addTrip : ByteArray := prog_9_method_3_code
def yX7_addTrip : MethodName := ⟨RX7, "addTrip", "(III)Z"⟩
abbrev cX7_setSlip : ByteArray := prog_9_method_4_code
def yX7_setSlip : MethodName := ⟨RX7, "setSlip", "(I)Z"⟩
abbrev cX7_setLife : ByteArray := prog_9_method_5_code
def yX7_setLife : MethodName := ⟨RX7, "setLife", "(I)Z"⟩
abbrev cX7_setDays : ByteArray := prog_9_method_6_code
def yX7_setDays : MethodName := ⟨RX7, "setDays", "(I)Z"⟩
abbrev cX7_passes : ByteArray := prog_9_method_7_code
def yX7_passes : MethodName := ⟨RX7, "passes", "(II)Z"⟩
abbrev cX7_trueNumber : ByteArray := prog_9_method_8_code
def yX7_trueNumber : MethodName := ⟨RX7, "trueNumber", "(IZ)I"⟩
abbrev cX7_leastBends : ByteArray := prog_9_method_9_code
def yX7_leastBends : MethodName := ⟨RX7, "leastBends", "(I)I"⟩
abbrev cX7_mostBends : ByteArray := prog_9_method_10_code
def yX7_mostBends : MethodName := ⟨RX7, "mostBends", "(I)I"⟩
abbrev cX7_bends : ByteArray := prog_9_method_11_code
def yX7_bends : MethodName := ⟨RX7, "bends", "(IIZ)I"⟩
abbrev cX7_worn : ByteArray := prog_9_method_12_code
def yX7_worn : MethodName := ⟨RX7, "worn", "(I)I"⟩
abbrev cX7_leads : ByteArray := prog_9_method_13_code
def yX7_leads : MethodName := ⟨RX7, "leads", "(IIZ)Z"⟩
abbrev cX7_daysLeft : ByteArray := prog_9_method_14_code
def yX7_daysLeft : MethodName := ⟨RX7, "daysLeft", "(I)J"⟩
def RX8 : String := "OldLift$Tape"
def TX8 : u_T := fun k => match k with
  | 0 => ("OldLift$Tape", "signs", "[C", true)
  | _ => ("OldLift$Tape", "length", "I", false)
def tyX8 : Nat → FieldType := fun k => match k with
  | 0 => .array .char
  | _ => .int
abbrev wsX80 : List Cond := u_ws RX8 TX8 2
theorem nmX8 : ∀ a, a < 2 → ∀ b, b < 2 → a ≠ b → (TX8 a).2.1 ≠ (TX8 b).2.1 := by decide +kernel
theorem tyX8_ok : ∀ k, k < 2 → parseFieldDescriptor (TX8 k).2.2.1 = some (tyX8 k) := by decide +kernel
abbrev cX8_init : ByteArray := prog_10_method_1_code
def yX8_init : MethodName := ⟨RX8, "<init>", "()V"⟩
abbrev cX8_put : ByteArray := prog_10_method_2_code
def yX8_put : MethodName := ⟨RX8, "put", "(J)V"⟩
def RX9 : String := "OldLift$Tokens"
def TX9 : u_T := fun k => match k with
  | 0 => ("OldLift$Tokens", "kind", "[I", true)
  | 1 => ("OldLift$Tokens", "value", "[I", true)
  | 2 => ("OldLift$Tokens", "place", "[I", true)
  | 3 => ("OldLift$Tokens", "tape", "LOldLift$Tape;", true)
  | _ => ("OldLift$Tokens", "size", "I", false)
def tyX9 : Nat → FieldType := fun k => match k with
  | 0 => .array .int
  | 1 => .array .int
  | 2 => .array .int
  | 3 => .object "OldLift$Tape"
  | _ => .int
abbrev wsX90 : List Cond := u_ws RX9 TX9 5
theorem nmX9 : ∀ a, a < 5 → ∀ b, b < 5 → a ≠ b → (TX9 a).2.1 ≠ (TX9 b).2.1 := by decide +kernel
theorem tyX9_ok : ∀ k, k < 5 → parseFieldDescriptor (TX9 k).2.2.1 = some (tyX9 k) := by decide +kernel
abbrev cX9_init : ByteArray := prog_11_method_1_code
def yX9_init : MethodName := ⟨RX9, "<init>", "(LOldLift$Tape;)V"⟩
abbrev cX9_take : ByteArray := prog_11_method_2_code
def yX9_take : MethodName := ⟨RX9, "take", "()V"⟩
abbrev cX9_add : ByteArray := prog_11_method_3_code
def yX9_add : MethodName := ⟨RX9, "add", "(III)V"⟩
abbrev cX9_takeOne : ByteArray := prog_11_method_4_code
def yX9_takeOne : MethodName := ⟨RX9, "takeOne", "(I)I"⟩
abbrev cX9_endOfRun : ByteArray := prog_11_method_5_code
def yX9_endOfRun : MethodName := ⟨RX9, "endOfRun", "(ICC)I"⟩
abbrev cX9_takeNumber : ByteArray := prog_11_method_6_code
def yX9_takeNumber : MethodName := ⟨RX9, "takeNumber", "(II)I"⟩
abbrev cX9_takeWord : ByteArray := prog_11_method_7_code
def yX9_takeWord : MethodName := ⟨RX9, "takeWord", "(II)I"⟩
abbrev cX9_wordKind : ByteArray := prog_11_method_8_code
def yX9_wordKind : MethodName := ⟨RX9, "wordKind", "(II)I"⟩
def RX10 : String := "OldLift$Trial"
def TX10 : u_T := fun k => match k with
  | 0 => ("OldLift$Trial", "given", "[I", true)
  | 1 => ("OldLift$Trial", "timeIn", "[I", true)
  | 2 => ("OldLift$Trial", "timeOut", "[I", true)
  | 3 => ("OldLift$Trial", "wait", "[I", true)
  | 4 => ("OldLift$Trial", "stops", "[I", true)
  | 5 => ("OldLift$Trial", "passed", "[[I", true)
  | 6 => ("OldLift$Trial", "cars", "I", false)
  | 7 => ("OldLift$Trial", "persons", "I", false)
  | 8 => ("OldLift$Trial", "over", "I", false)
  | 9 => ("OldLift$Trial", "plan", "LOldLift$Plan;", true)
  | 10 => ("OldLift$Trial", "floor", "[I", true)
  | 11 => ("OldLift$Trial", "heading", "[I", true)
  | 12 => ("OldLift$Trial", "standing", "[I", true)
  | 13 => ("OldLift$Trial", "inside", "[I", true)
  | 14 => ("OldLift$Trial", "waiting", "[I", true)
  | 15 => ("OldLift$Trial", "fromHere", "[I", true)
  | 16 => ("OldLift$Trial", "toHere", "[I", true)
  | 17 => ("OldLift$Trial", "coming", "I", false)
  | 18 => ("OldLift$Trial", "notOut", "I", false)
  | _ => ("OldLift$Trial", "shown", "I", false)
def tyX10 : Nat → FieldType := fun k => match k with
  | 0 => .array .int
  | 1 => .array .int
  | 2 => .array .int
  | 3 => .array .int
  | 4 => .array .int
  | 5 => .array (.array .int)
  | 6 => .int
  | 7 => .int
  | 8 => .int
  | 9 => .object "OldLift$Plan"
  | 10 => .array .int
  | 11 => .array .int
  | 12 => .array .int
  | 13 => .array .int
  | 14 => .array .int
  | 15 => .array .int
  | 16 => .array .int
  | 17 => .int
  | 18 => .int
  | _ => .int
abbrev wsX100 : List Cond := u_ws RX10 TX10 20
theorem nmX10 : ∀ a, a < 20 → ∀ b, b < 20 → a ≠ b → (TX10 a).2.1 ≠ (TX10 b).2.1 := by decide +kernel
theorem tyX10_ok : ∀ k, k < 20 → parseFieldDescriptor (TX10 k).2.2.1 = some (tyX10 k) := by decide +kernel
abbrev cX10_init : ByteArray := prog_12_method_1_code
def yX10_init : MethodName := ⟨RX10, "<init>", "(LOldLift$Plan;)V"⟩
abbrev cX10_catchUp : ByteArray := prog_12_method_2_code
def yX10_catchUp : MethodName := ⟨RX10, "catchUp", "()V"⟩
abbrev cX10_simulate : ByteArray := prog_12_method_3_code
def yX10_simulate : MethodName := ⟨RX10, "simulate", "(I)V"⟩
abbrev cX10_begin : ByteArray := prog_12_method_4_code
def yX10_begin : MethodName := ⟨RX10, "begin", "()V"⟩
abbrev cX10_give : ByteArray := prog_12_method_5_code
def yX10_give : MethodName := ⟨RX10, "give", "(II)V"⟩
abbrev cX10_carByRule : ByteArray := prog_12_method_6_code
def yX10_carByRule : MethodName := ⟨RX10, "carByRule", "(II)I"⟩
abbrev cX10_ruleOf : ByteArray := prog_12_method_7_code
def yX10_ruleOf : MethodName := ⟨RX10, "ruleOf", "(III)I"⟩
abbrev cX10_holdDoors : ByteArray := prog_12_method_8_code
def yX10_holdDoors : MethodName := ⟨RX10, "holdDoors", "(I)V"⟩
abbrev cX10_act : ByteArray := prog_12_method_9_code
def yX10_act : MethodName := ⟨RX10, "act", "(II)V"⟩
abbrev cX10_flee : ByteArray := prog_12_method_10_code
def yX10_flee : MethodName := ⟨RX10, "flee", "(II)V"⟩
abbrev cX10_hasRoom : ByteArray := prog_12_method_11_code
def yX10_hasRoom : MethodName := ⟨RX10, "hasRoom", "(I)Z"⟩
abbrev cX10_stopsHere : ByteArray := prog_12_method_12_code
def yX10_stopsHere : MethodName := ⟨RX10, "stopsHere", "(I)Z"⟩
abbrev cX10_stop : ByteArray := prog_12_method_13_code
def yX10_stop : MethodName := ⟨RX10, "stop", "(II)V"⟩
abbrev cX10_letOut : ByteArray := prog_12_method_14_code
def yX10_letOut : MethodName := ⟨RX10, "letOut", "(III)V"⟩
abbrev cX10_goalsOf : ByteArray := prog_12_method_15_code
def yX10_goalsOf : MethodName := ⟨RX10, "goalsOf", "(IZ)I"⟩
abbrev cX10_go : ByteArray := prog_12_method_16_code
def yX10_go : MethodName := ⟨RX10, "go", "(I)V"⟩
abbrev cX10_wayTo : ByteArray := prog_12_method_17_code
def yX10_wayTo : MethodName := ⟨RX10, "wayTo", "(III)I"⟩
abbrev cX10_move : ByteArray := prog_12_method_18_code
def yX10_move : MethodName := ⟨RX10, "move", "(II)V"⟩
abbrev cX10_allHome : ByteArray := prog_12_method_19_code
def yX10_allHome : MethodName := ⟨RX10, "allHome", "()Z"⟩
abbrev cX10_allRest : ByteArray := prog_12_method_20_code
def yX10_allRest : MethodName := ⟨RX10, "allRest", "()Z"⟩
abbrev cX10_nextChange : ByteArray := prog_12_method_21_code
def yX10_nextChange : MethodName := ⟨RX10, "nextChange", "()I"⟩
abbrev cX10_noteWaits : ByteArray := prog_12_method_22_code
def yX10_noteWaits : MethodName := ⟨RX10, "noteWaits", "()V"⟩
abbrev cX10_sumOfWaits : ByteArray := prog_12_method_23_code
def yX10_sumOfWaits : MethodName := ⟨RX10, "sumOfWaits", "()I"⟩
abbrev cX10_longestWaiter : ByteArray := prog_12_method_24_code
def yX10_longestWaiter : MethodName := ⟨RX10, "longestWaiter", "()I"⟩
abbrev cX10_howManyOut : ByteArray := prog_12_method_25_code
def yX10_howManyOut : MethodName := ⟨RX10, "howManyOut", "()I"⟩
def RX11 : String := "OldLift"
def TX11 : u_T := fun k => match k with
  | 0 => ("OldLift", "tape", "LOldLift$Tape;", true)
  | 1 => ("OldLift", "parser", "LOldLift$Parser;", true)
  | 2 => ("OldLift", "machine", "LOldLift$Machine;", true)
  | 3 => ("OldLift", "atlas", "LOldLift$Atlas;", true)
  | 4 => ("OldLift", "guess", "LOldLift$Guess;", true)
  | 5 => ("OldLift", "plan", "LOldLift$Plan;", true)
  | 6 => ("OldLift", "ride", "LOldLift$Trial;", true)
  | 7 => ("OldLift", "choice", "LOldLift$Choice;", true)
  | _ => ("OldLift", "cable", "LOldLift$Rope;", true)
def tyX11 : Nat → FieldType := fun k => match k with
  | 0 => .object "OldLift$Tape"
  | 1 => .object "OldLift$Parser"
  | 2 => .object "OldLift$Machine"
  | 3 => .object "OldLift$Atlas"
  | 4 => .object "OldLift$Guess"
  | 5 => .object "OldLift$Plan"
  | 6 => .object "OldLift$Trial"
  | 7 => .object "OldLift$Choice"
  | _ => .object "OldLift$Rope"
abbrev wsX110 : List Cond := u_ws RX11 TX11 9
theorem nmX11 : ∀ a, a < 9 → ∀ b, b < 9 → a ≠ b → (TX11 a).2.1 ≠ (TX11 b).2.1 := by decide +kernel
theorem tyX11_ok : ∀ k, k < 9 → parseFieldDescriptor (TX11 k).2.2.1 = some (tyX11 k) := by decide +kernel
abbrev cX11_init : ByteArray := prog_1_method_1_code
def yX11_init : MethodName := ⟨RX11, "<init>", "()V"⟩
abbrev cX11_floors : ByteArray := prog_1_method_2_code
def yX11_floors : MethodName := ⟨RX11, "floors", "(I)Z"⟩
abbrev cX11_feed : ByteArray := prog_1_method_3_code
def yX11_feed : MethodName := ⟨RX11, "feed", "(JJJ)I"⟩
abbrev cX11_circuit : ByteArray := prog_1_method_4_code
def yX11_circuit : MethodName := ⟨RX11, "circuit", "()I"⟩
abbrev cX11_rule : ByteArray := prog_1_method_5_code
def yX11_rule : MethodName := ⟨RX11, "rule", "()I"⟩
abbrev cX11_press : ByteArray := prog_1_method_6_code
def yX11_press : MethodName := ⟨RX11, "press", "(I)I"⟩
abbrev cX11_again : ByteArray := prog_1_method_7_code
def yX11_again : MethodName := ⟨RX11, "again", "()Z"⟩
abbrev cX11_look : ByteArray := prog_1_method_8_code
def yX11_look : MethodName := ⟨RX11, "look", "(I)I"⟩
abbrev cX11_never : ByteArray := prog_1_method_9_code
def yX11_never : MethodName := ⟨RX11, "never", "(II)I"⟩
abbrev cX11_neverRow : ByteArray := prog_1_method_10_code
def yX11_neverRow : MethodName := ⟨RX11, "neverRow", "(II)I"⟩
abbrev cX11_forgets : ByteArray := prog_1_method_11_code
def yX11_forgets : MethodName := ⟨RX11, "forgets", "(III)I"⟩
abbrev cX11_forgetsRow : ByteArray := prog_1_method_12_code
def yX11_forgetsRow : MethodName := ⟨RX11, "forgetsRow", "(III)I"⟩
abbrev cX11_stuck : ByteArray := prog_1_method_13_code
def yX11_stuck : MethodName := ⟨RX11, "stuck", "(I)I"⟩
abbrev cX11_tried : ByteArray := prog_1_method_14_code
def yX11_tried : MethodName := ⟨RX11, "tried", "(II)I"⟩
abbrev cX11_thought : ByteArray := prog_1_method_15_code
def yX11_thought : MethodName := ⟨RX11, "thought", "(I)I"⟩
abbrev cX11_tests : ByteArray := prog_1_method_16_code
def yX11_tests : MethodName := ⟨RX11, "tests", "(I)I"⟩
abbrev cX11_cars : ByteArray := prog_1_method_17_code
def yX11_cars : MethodName := ⟨RX11, "cars", "(IIII)Z"⟩
abbrev cX11_person : ByteArray := prog_1_method_18_code
def yX11_person : MethodName := ⟨RX11, "person", "(III)I"⟩
abbrev cX11_hold : ByteArray := prog_1_method_19_code
def yX11_hold : MethodName := ⟨RX11, "hold", "(III)Z"⟩
abbrev cX11_fire : ByteArray := prog_1_method_20_code
def yX11_fire : MethodName := ⟨RX11, "fire", "(I)Z"⟩
abbrev cX11_nobody : ByteArray := prog_1_method_21_code
def yX11_nobody : MethodName := ⟨RX11, "nobody", "()Z"⟩
abbrev cX11_run : ByteArray := prog_1_method_22_code
def yX11_run : MethodName := ⟨RX11, "run", "()I"⟩
abbrev cX11_rode : ByteArray := prog_1_method_23_code
def yX11_rode : MethodName := ⟨RX11, "rode", "(II)I"⟩
abbrev cX11_waits : ByteArray := prog_1_method_24_code
def yX11_waits : MethodName := ⟨RX11, "waits", "(I)I"⟩
abbrev cX11_moved : ByteArray := prog_1_method_25_code
def yX11_moved : MethodName := ⟨RX11, "moved", "(II)I"⟩
abbrev cX11_stopped : ByteArray := prog_1_method_26_code
def yX11_stopped : MethodName := ⟨RX11, "stopped", "(I)I"⟩
abbrev cX11_best : ByteArray := prog_1_method_27_code
def yX11_best : MethodName := ⟨RX11, "best", "(II)I"⟩
abbrev cX11_trip : ByteArray := prog_1_method_28_code
def yX11_trip : MethodName := ⟨RX11, "trip", "(III)Z"⟩
abbrev cX11_gauge : ByteArray := prog_1_method_29_code
def yX11_gauge : MethodName := ⟨RX11, "gauge", "(II)Z"⟩
abbrev cX11_rope : ByteArray := prog_1_method_30_code
def yX11_rope : MethodName := ⟨RX11, "rope", "(II)I"⟩
abbrev cX11_first : ByteArray := prog_1_method_31_code
def yX11_first : MethodName := ⟨RX11, "first", "(I)I"⟩
abbrev cX11_lasts : ByteArray := prog_1_method_32_code
def yX11_lasts : MethodName := ⟨RX11, "lasts", "(II)J"⟩
abbrev cX11_count : ByteArray := prog_1_method_33_code
def yX11_count : MethodName := ⟨RX11, "count", "(I)I"⟩
abbrev cX11_startHouse : ByteArray := prog_1_method_34_code
def yX11_startHouse : MethodName := ⟨RX11, "startHouse", "(I)V"⟩
abbrev cX11_startCircuit : ByteArray := prog_1_method_35_code
def yX11_startCircuit : MethodName := ⟨RX11, "startCircuit", "()V"⟩
abbrev cX11_isFloor : ByteArray := prog_1_method_36_code
def yX11_isFloor : MethodName := ⟨RX11, "isFloor", "(I)Z"⟩
abbrev cX11_isPatience : ByteArray := prog_1_method_37_code
def yX11_isPatience : MethodName := ⟨RX11, "isPatience", "(I)Z"⟩
abbrev cX11_areLamps : ByteArray := prog_1_method_38_code
def yX11_areLamps : MethodName := ⟨RX11, "areLamps", "(I)Z"⟩
abbrev cX11_floorOf : ByteArray := prog_1_method_39_code
def yX11_floorOf : MethodName := ⟨RX11, "floorOf", "(I)I"⟩
abbrev cX11_doorOf : ByteArray := prog_1_method_40_code
def yX11_doorOf : MethodName := ⟨RX11, "doorOf", "(I)I"⟩
def RX12 : String := "OldLiftModel"
def TX12 : u_T := fun k => match k with
  | 0 => ("OldLiftModel", "thrown", "I", false)
  | 1 => ("OldLiftModel", "floors", "I", false)
  | 2 => ("OldLiftModel", "taped", "I", false)
  | 3 => ("OldLiftModel", "tape", "[I", true)
  | 4 => ("OldLiftModel", "size", "I", false)
  | 5 => ("OldLiftModel", "place", "I", false)
  | 6 => ("OldLiftModel", "begin", "I", false)
  | 7 => ("OldLiftModel", "token", "I", false)
  | 8 => ("OldLiftModel", "word", "J", false)
  | 9 => ("OldLiftModel", "told", "I", false)
  | 10 => ("OldLiftModel", "wrong", "I", false)
  | 11 => ("OldLiftModel", "has", "[Z", true)
  | 12 => ("OldLiftModel", "lineFrom", "[I", true)
  | 13 => ("OldLiftModel", "lineTo", "[I", true)
  | 14 => ("OldLiftModel", "freshHas", "[Z", true)
  | 15 => ("OldLiftModel", "freshFrom", "[I", true)
  | 16 => ("OldLiftModel", "freshTo", "[I", true)
  | 17 => ("OldLiftModel", "codes", "[I", true)
  | 18 => ("OldLiftModel", "code", "I", false)
  | 19 => ("OldLiftModel", "isRule", "Z", false)
  | 20 => ("OldLiftModel", "hasRule", "Z", false)
  | 21 => ("OldLiftModel", "opened", "[I", true)
  | 22 => ("OldLiftModel", "compared", "[Z", true)
  | 23 => ("OldLiftModel", "kept", "[I", true)
  | 24 => ("OldLiftModel", "keptBy", "[I", true)
  | 25 => ("OldLiftModel", "ahead", "[I", true)
  | 26 => ("OldLiftModel", "against", "[I", true)
  | 27 => ("OldLiftModel", "sum", "[I", true)
  | 28 => ("OldLiftModel", "sumBy", "[I", true)
  | 29 => ("OldLiftModel", "term", "[I", true)
  | 30 => ("OldLiftModel", "termBy", "[I", true)
  | 31 => ("OldLiftModel", "byNot", "[I", true)
  | 32 => ("OldLiftModel", "valueOf", "[I", true)
  | 33 => ("OldLiftModel", "state", "I", false)
  | 34 => ("OldLiftModel", "bumps", "I", false)
  | 35 => ("OldLiftModel", "ticks", "I", false)
  | 36 => ("OldLiftModel", "bumped", "I", false)
  | 37 => ("OldLiftModel", "gone", "Z", false)
  | 38 => ("OldLiftModel", "many", "I", false)
  | 39 => ("OldLiftModel", "queue", "[I", true)
  | 40 => ("OldLiftModel", "from", "[I", true)
  | 41 => ("OldLiftModel", "by", "[I", true)
  | 42 => ("OldLiftModel", "deep", "[I", true)
  | 43 => ("OldLiftModel", "met", "[Z", true)
  | 44 => ("OldLiftModel", "leads", "[I", true)
  | 45 => ("OldLiftModel", "shows", "[I", true)
  | 46 => ("OldLiftModel", "isStuck", "Z", false)
  | 47 => ("OldLiftModel", "thoughts", "[I", true)
  | 48 => ("OldLiftModel", "thoughtMany", "[I", true)
  | 49 => ("OldLiftModel", "stamp", "[I", true)
  | 50 => ("OldLiftModel", "stamped", "I", false)
  | 51 => ("OldLiftModel", "lampStamp", "[I", true)
  | 52 => ("OldLiftModel", "lampStamped", "[I", true)
  | 53 => ("OldLiftModel", "cars", "I", false)
  | 54 => ("OldLiftModel", "carSize", "I", false)
  | 55 => ("OldLiftModel", "doors", "I", false)
  | 56 => ("OldLiftModel", "park", "I", false)
  | 57 => ("OldLiftModel", "persons", "I", false)
  | 58 => ("OldLiftModel", "comes", "[I", true)
  | 59 => ("OldLiftModel", "fromOf", "[I", true)
  | 60 => ("OldLiftModel", "toOf", "[I", true)
  | 61 => ("OldLiftModel", "held", "I", false)
  | 62 => ("OldLiftModel", "holdTime", "[I", true)
  | 63 => ("OldLiftModel", "holdCar", "[I", true)
  | 64 => ("OldLiftModel", "holdFor", "[I", true)
  | 65 => ("OldLiftModel", "fireAt", "I", false)
  | 66 => ("OldLiftModel", "carOf", "[I", true)
  | 67 => ("OldLiftModel", "timeIn", "[I", true)
  | 68 => ("OldLiftModel", "timeOut", "[I", true)
  | 69 => ("OldLiftModel", "floorAt", "[I", true)
  | 70 => ("OldLiftModel", "heading", "[I", true)
  | 71 => ("OldLiftModel", "standing", "[I", true)
  | 72 => ("OldLiftModel", "passes", "[I", true)
  | 73 => ("OldLiftModel", "stops", "[I", true)
  | 74 => ("OldLiftModel", "end", "I", false)
  | 75 => ("OldLiftModel", "trips", "I", false)
  | 76 => ("OldLiftModel", "tripFrom", "[I", true)
  | 77 => ("OldLiftModel", "tripTo", "[I", true)
  | 78 => ("OldLiftModel", "tripMany", "[I", true)
  | 79 => ("OldLiftModel", "slip", "I", false)
  | 80 => ("OldLiftModel", "life", "I", false)
  | _ => ("OldLiftModel", "days", "I", false)
def tyX12 : Nat → FieldType := fun k => match k with
  | 0 => .int
  | 1 => .int
  | 2 => .int
  | 3 => .array .int
  | 4 => .int
  | 5 => .int
  | 6 => .int
  | 7 => .int
  | 8 => .long
  | 9 => .int
  | 10 => .int
  | 11 => .array .boolean
  | 12 => .array .int
  | 13 => .array .int
  | 14 => .array .boolean
  | 15 => .array .int
  | 16 => .array .int
  | 17 => .array .int
  | 18 => .int
  | 19 => .boolean
  | 20 => .boolean
  | 21 => .array .int
  | 22 => .array .boolean
  | 23 => .array .int
  | 24 => .array .int
  | 25 => .array .int
  | 26 => .array .int
  | 27 => .array .int
  | 28 => .array .int
  | 29 => .array .int
  | 30 => .array .int
  | 31 => .array .int
  | 32 => .array .int
  | 33 => .int
  | 34 => .int
  | 35 => .int
  | 36 => .int
  | 37 => .boolean
  | 38 => .int
  | 39 => .array .int
  | 40 => .array .int
  | 41 => .array .int
  | 42 => .array .int
  | 43 => .array .boolean
  | 44 => .array .int
  | 45 => .array .int
  | 46 => .boolean
  | 47 => .array .int
  | 48 => .array .int
  | 49 => .array .int
  | 50 => .int
  | 51 => .array .int
  | 52 => .array .int
  | 53 => .int
  | 54 => .int
  | 55 => .int
  | 56 => .int
  | 57 => .int
  | 58 => .array .int
  | 59 => .array .int
  | 60 => .array .int
  | 61 => .int
  | 62 => .array .int
  | 63 => .array .int
  | 64 => .array .int
  | 65 => .int
  | 66 => .array .int
  | 67 => .array .int
  | 68 => .array .int
  | 69 => .array .int
  | 70 => .array .int
  | 71 => .array .int
  | 72 => .array .int
  | 73 => .array .int
  | 74 => .int
  | 75 => .int
  | 76 => .array .int
  | 77 => .array .int
  | 78 => .array .int
  | 79 => .int
  | 80 => .int
  | _ => .int
abbrev wsX120 : List Cond := u_ws RX12 TX12 82
theorem nmX12 : ∀ a, a < 82 → ∀ b, b < 82 → a ≠ b → (TX12 a).2.1 ≠ (TX12 b).2.1 := by decide +kernel
theorem tyX12_ok : ∀ k, k < 82 → parseFieldDescriptor (TX12 k).2.2.1 = some (tyX12 k) := by decide +kernel
abbrev cX12_init : ByteArray := prog_14_method_1_code
def yX12_init : MethodName := ⟨RX12, "<init>", "()V"⟩
abbrev cX12_thrown : ByteArray := prog_14_method_2_code
def yX12_thrown : MethodName := ⟨RX12, "thrown", "()I"⟩
abbrev cX12_within : ByteArray := prog_14_method_3_code
def yX12_within : MethodName := ⟨RX12, "within", "(III)Z"⟩
abbrev cX12_isFloor : ByteArray := prog_14_method_4_code
def yX12_isFloor : MethodName := ⟨RX12, "isFloor", "(I)Z"⟩
abbrev cX12_floors : ByteArray := prog_14_method_5_code
def yX12_floors : MethodName := ⟨RX12, "floors", "(I)Z"⟩
abbrev cX12_feed : ByteArray := prog_14_method_6_code
def yX12_feed : MethodName := ⟨RX12, "feed", "(JJJ)I"⟩
abbrev cX12_signAt : ByteArray := prog_14_method_7_code
def yX12_signAt : MethodName := ⟨RX12, "signAt", "(I)I"⟩
abbrev cX12_nextToken : ByteArray := prog_14_method_8_code
def yX12_nextToken : MethodName := ⟨RX12, "nextToken", "()V"⟩
abbrev cX12_isWord : ByteArray := prog_14_method_9_code
def yX12_isWord : MethodName := ⟨RX12, "isWord", "(J)Z"⟩
abbrev cX12_isSign : ByteArray := prog_14_method_10_code
def yX12_isSign : MethodName := ⟨RX12, "isSign", "(I)Z"⟩
abbrev cX12_fails : ByteArray := prog_14_method_11_code
def yX12_fails : MethodName := ⟨RX12, "fails", "(I)Z"⟩
abbrev cX12_puts : ByteArray := prog_14_method_12_code
def yX12_puts : MethodName := ⟨RX12, "puts", "(I)V"⟩
abbrev cX12_fact : ByteArray := prog_14_method_13_code
def yX12_fact : MethodName := ⟨RX12, "fact", "()I"⟩
abbrev cX12_readsFact : ByteArray := prog_14_method_14_code
def yX12_readsFact : MethodName := ⟨RX12, "readsFact", "(I)Z"⟩
abbrev cX12_reads : ByteArray := prog_14_method_15_code
def yX12_reads : MethodName := ⟨RX12, "reads", "()Z"⟩
abbrev cX12_readsLine : ByteArray := prog_14_method_16_code
def yX12_readsLine : MethodName := ⟨RX12, "readsLine", "(I)I"⟩
abbrev cX12_readsCircuit : ByteArray := prog_14_method_17_code
def yX12_readsCircuit : MethodName := ⟨RX12, "readsCircuit", "()Z"⟩
abbrev cX12_takesTape : ByteArray := prog_14_method_18_code
def yX12_takesTape : MethodName := ⟨RX12, "takesTape", "()V"⟩
abbrev cX12_circuit : ByteArray := prog_14_method_19_code
def yX12_circuit : MethodName := ⟨RX12, "circuit", "()I"⟩
abbrev cX12_rule : ByteArray := prog_14_method_20_code
def yX12_rule : MethodName := ⟨RX12, "rule", "()I"⟩
abbrev cX12_opens : ByteArray := prog_14_method_21_code
def yX12_opens : MethodName := ⟨RX12, "opens", "(I)V"⟩
abbrev cX12_sums : ByteArray := prog_14_method_22_code
def yX12_sums : MethodName := ⟨RX12, "sums", "(I)V"⟩
abbrev cX12_holds : ByteArray := prog_14_method_23_code
def yX12_holds : MethodName := ⟨RX12, "holds", "(I)V"⟩
abbrev cX12_worth : ByteArray := prog_14_method_24_code
def yX12_worth : MethodName := ⟨RX12, "worth", "(I)I"⟩
abbrev cX12_begins : ByteArray := prog_14_method_25_code
def yX12_begins : MethodName := ⟨RX12, "begins", "()V"⟩
abbrev cX12_floorOf : ByteArray := prog_14_method_26_code
def yX12_floorOf : MethodName := ⟨RX12, "floorOf", "(I)I"⟩
abbrev cX12_isOpen : ByteArray := prog_14_method_27_code
def yX12_isOpen : MethodName := ⟨RX12, "isOpen", "(I)Z"⟩
abbrev cX12_isSo : ByteArray := prog_14_method_28_code
def yX12_isSo : MethodName := ⟨RX12, "isSo", "(I)Z"⟩
abbrev cX12_sets : ByteArray := prog_14_method_29_code
def yX12_sets : MethodName := ⟨RX12, "sets", "(III)V"⟩
abbrev cX12_behind : ByteArray := prog_14_method_30_code
def yX12_behind : MethodName := ⟨RX12, "behind", "(II)I"⟩
abbrev cX12_lampsOf : ByteArray := prog_14_method_31_code
def yX12_lampsOf : MethodName := ⟨RX12, "lampsOf", "(I)I"⟩
abbrev cX12_press : ByteArray := prog_14_method_32_code
def yX12_press : MethodName := ⟨RX12, "press", "(I)I"⟩
abbrev cX12_again : ByteArray := prog_14_method_33_code
def yX12_again : MethodName := ⟨RX12, "again", "()Z"⟩
abbrev cX12_look : ByteArray := prog_14_method_34_code
def yX12_look : MethodName := ⟨RX12, "look", "(I)I"⟩
abbrev cX12_meets : ByteArray := prog_14_method_35_code
def yX12_meets : MethodName := ⟨RX12, "meets", "(IIII)V"⟩
abbrev cX12_goesThrough : ByteArray := prog_14_method_36_code
def yX12_goesThrough : MethodName := ⟨RX12, "goesThrough", "()V"⟩
abbrev cX12_rowTo : ByteArray := prog_14_method_37_code
def yX12_rowTo : MethodName := ⟨RX12, "rowTo", "(II)I"⟩
abbrev cX12_isNever : ByteArray := prog_14_method_38_code
def yX12_isNever : MethodName := ⟨RX12, "isNever", "(I)Z"⟩
abbrev cX12_breaks : ByteArray := prog_14_method_39_code
def yX12_breaks : MethodName := ⟨RX12, "breaks", "(I)I"⟩
abbrev cX12_never : ByteArray := prog_14_method_40_code
def yX12_never : MethodName := ⟨RX12, "never", "(II)I"⟩
abbrev cX12_neverRow : ByteArray := prog_14_method_41_code
def yX12_neverRow : MethodName := ⟨RX12, "neverRow", "(II)I"⟩
abbrev cX12_forgotten : ByteArray := prog_14_method_42_code
def yX12_forgotten : MethodName := ⟨RX12, "forgotten", "(II)I"⟩
abbrev cX12_forgets : ByteArray := prog_14_method_43_code
def yX12_forgets : MethodName := ⟨RX12, "forgets", "(III)I"⟩
abbrev cX12_forgetsRow : ByteArray := prog_14_method_44_code
def yX12_forgetsRow : MethodName := ⟨RX12, "forgetsRow", "(III)I"⟩
abbrev cX12_stuck : ByteArray := prog_14_method_45_code
def yX12_stuck : MethodName := ⟨RX12, "stuck", "(I)I"⟩
abbrev cX12_narrows : ByteArray := prog_14_method_46_code
def yX12_narrows : MethodName := ⟨RX12, "narrows", "(III)V"⟩
abbrev cX12_tried : ByteArray := prog_14_method_47_code
def yX12_tried : MethodName := ⟨RX12, "tried", "(II)I"⟩
abbrev cX12_thought : ByteArray := prog_14_method_48_code
def yX12_thought : MethodName := ⟨RX12, "thought", "(I)I"⟩
abbrev cX12_isOne : ByteArray := prog_14_method_49_code
def yX12_isOne : MethodName := ⟨RX12, "isOne", "(I)Z"⟩
abbrev cX12_tells : ByteArray := prog_14_method_50_code
def yX12_tells : MethodName := ⟨RX12, "tells", "(III)Z"⟩
abbrev cX12_isTold : ByteArray := prog_14_method_51_code
def yX12_isTold : MethodName := ⟨RX12, "isTold", "(II)Z"⟩
abbrev cX12_tests : ByteArray := prog_14_method_52_code
def yX12_tests : MethodName := ⟨RX12, "tests", "(I)I"⟩
abbrev cX12_clears : ByteArray := prog_14_method_53_code
def yX12_clears : MethodName := ⟨RX12, "clears", "()V"⟩
abbrev cX12_cars : ByteArray := prog_14_method_54_code
def yX12_cars : MethodName := ⟨RX12, "cars", "(IIII)Z"⟩
abbrev cX12_person : ByteArray := prog_14_method_55_code
def yX12_person : MethodName := ⟨RX12, "person", "(III)I"⟩
abbrev cX12_hold : ByteArray := prog_14_method_56_code
def yX12_hold : MethodName := ⟨RX12, "hold", "(III)Z"⟩
abbrev cX12_fire : ByteArray := prog_14_method_57_code
def yX12_fire : MethodName := ⟨RX12, "fire", "(I)Z"⟩
abbrev cX12_nobody : ByteArray := prog_14_method_58_code
def yX12_nobody : MethodName := ⟨RX12, "nobody", "()Z"⟩
abbrev cX12_isInside : ByteArray := prog_14_method_59_code
def yX12_isInside : MethodName := ⟨RX12, "isInside", "(II)Z"⟩
abbrev cX12_isWaiting : ByteArray := prog_14_method_60_code
def yX12_isWaiting : MethodName := ⟨RX12, "isWaiting", "(II)Z"⟩
abbrev cX12_loadOf : ByteArray := prog_14_method_61_code
def yX12_loadOf : MethodName := ⟨RX12, "loadOf", "(I)I"⟩
abbrev cX12_goalsOf : ByteArray := prog_14_method_62_code
def yX12_goalsOf : MethodName := ⟨RX12, "goalsOf", "(I)I"⟩
abbrev cX12_bits : ByteArray := prog_14_method_63_code
def yX12_bits : MethodName := ⟨RX12, "bits", "(I)I"⟩
abbrev cX12_ruleOf : ByteArray := prog_14_method_64_code
def yX12_ruleOf : MethodName := ⟨RX12, "ruleOf", "(III)I"⟩
abbrev cX12_gives : ByteArray := prog_14_method_65_code
def yX12_gives : MethodName := ⟨RX12, "gives", "(III)V"⟩
abbrev cX12_passes : ByteArray := prog_14_method_66_code
def yX12_passes : MethodName := ⟨RX12, "passes", "(II)V"⟩
abbrev cX12_mayStop : ByteArray := prog_14_method_67_code
def yX12_mayStop : MethodName := ⟨RX12, "mayStop", "(I)Z"⟩
abbrev cX12_stopsAt : ByteArray := prog_14_method_68_code
def yX12_stopsAt : MethodName := ⟨RX12, "stopsAt", "(II)V"⟩
abbrev cX12_nearest : ByteArray := prog_14_method_69_code
def yX12_nearest : MethodName := ⟨RX12, "nearest", "(III)I"⟩
abbrev cX12_goes : ByteArray := prog_14_method_70_code
def yX12_goes : MethodName := ⟨RX12, "goes", "(I)V"⟩
abbrev cX12_flees : ByteArray := prog_14_method_71_code
def yX12_flees : MethodName := ⟨RX12, "flees", "(II)V"⟩
abbrev cX12_acts : ByteArray := prog_14_method_72_code
def yX12_acts : MethodName := ⟨RX12, "acts", "(II)V"⟩
abbrev cX12_isOver : ByteArray := prog_14_method_73_code
def yX12_isOver : MethodName := ⟨RX12, "isOver", "(I)Z"⟩
abbrev cX12_runs : ByteArray := prog_14_method_74_code
def yX12_runs : MethodName := ⟨RX12, "runs", "(I)V"⟩
abbrev cX12_waitOf : ByteArray := prog_14_method_75_code
def yX12_waitOf : MethodName := ⟨RX12, "waitOf", "(I)I"⟩
abbrev cX12_run : ByteArray := prog_14_method_76_code
def yX12_run : MethodName := ⟨RX12, "run", "()I"⟩
abbrev cX12_rode : ByteArray := prog_14_method_77_code
def yX12_rode : MethodName := ⟨RX12, "rode", "(II)I"⟩
abbrev cX12_waitsBy : ByteArray := prog_14_method_78_code
def yX12_waitsBy : MethodName := ⟨RX12, "waitsBy", "(I)I"⟩
abbrev cX12_waits : ByteArray := prog_14_method_79_code
def yX12_waits : MethodName := ⟨RX12, "waits", "(I)I"⟩
abbrev cX12_moved : ByteArray := prog_14_method_80_code
def yX12_moved : MethodName := ⟨RX12, "moved", "(II)I"⟩
abbrev cX12_stopped : ByteArray := prog_14_method_81_code
def yX12_stopped : MethodName := ⟨RX12, "stopped", "(I)I"⟩
abbrev cX12_best : ByteArray := prog_14_method_82_code
def yX12_best : MethodName := ⟨RX12, "best", "(II)I"⟩
abbrev cX12_trip : ByteArray := prog_14_method_83_code
def yX12_trip : MethodName := ⟨RX12, "trip", "(III)Z"⟩
abbrev cX12_gauge : ByteArray := prog_14_method_84_code
def yX12_gauge : MethodName := ⟨RX12, "gauge", "(II)Z"⟩
abbrev cX12_bends : ByteArray := prog_14_method_85_code
def yX12_bends : MethodName := ⟨RX12, "bends", "(II)Z"⟩
abbrev cX12_trueOf : ByteArray := prog_14_method_86_code
def yX12_trueOf : MethodName := ⟨RX12, "trueOf", "(II)I"⟩
abbrev cX12_bendsOf : ByteArray := prog_14_method_87_code
def yX12_bendsOf : MethodName := ⟨RX12, "bendsOf", "(II)I"⟩
abbrev cX12_isPart : ByteArray := prog_14_method_88_code
def yX12_isPart : MethodName := ⟨RX12, "isPart", "(I)Z"⟩
abbrev cX12_rope : ByteArray := prog_14_method_89_code
def yX12_rope : MethodName := ⟨RX12, "rope", "(II)I"⟩
abbrev cX12_first : ByteArray := prog_14_method_90_code
def yX12_first : MethodName := ⟨RX12, "first", "(I)I"⟩
abbrev cX12_lasts : ByteArray := prog_14_method_91_code
def yX12_lasts : MethodName := ⟨RX12, "lasts", "(II)J"⟩
abbrev cX12_count : ByteArray := prog_14_method_92_code
def yX12_count : MethodName := ⟨RX12, "count", "(I)I"⟩
def RJx145de : String := "java/io/Serializable"
def TJx145de : u_T := fun k => match k with
  | _ => ("", "", "", false)
def tyJx145de : Nat → FieldType := fun k => match k with
  | _ => .int
abbrev wsJx145de0 : List Cond := u_ws RJx145de TJx145de 0
theorem nmJx145de : ∀ a, a < 0 → ∀ b, b < 0 → a ≠ b → (TJx145de a).2.1 ≠ (TJx145de b).2.1 := by decide +kernel
theorem tyJx145de_ok : ∀ k, k < 0 → parseFieldDescriptor (TJx145de k).2.2.1 = some (tyJx145de k) := by decide +kernel
def RJx9f9b0 : String := "java/lang/CharSequence"
def TJx9f9b0 : u_T := fun k => match k with
  | _ => ("", "", "", false)
def tyJx9f9b0 : Nat → FieldType := fun k => match k with
  | _ => .int
abbrev wsJx9f9b00 : List Cond := u_ws RJx9f9b0 TJx9f9b0 0
theorem nmJx9f9b0 : ∀ a, a < 0 → ∀ b, b < 0 → a ≠ b → (TJx9f9b0 a).2.1 ≠ (TJx9f9b0 b).2.1 := by decide +kernel
theorem tyJx9f9b0_ok : ∀ k, k < 0 → parseFieldDescriptor (TJx9f9b0 k).2.2.1 = some (tyJx9f9b0 k) := by decide +kernel
def RJ11 : String := "java/lang/Character"
def TJ11 : u_T := fun k => match k with
  | _ => ("", "", "", false)
def tyJ11 : Nat → FieldType := fun k => match k with
  | _ => .int
abbrev wsJ110 : List Cond := u_ws RJ11 TJ11 0
theorem nmJ11 : ∀ a, a < 0 → ∀ b, b < 0 → a ≠ b → (TJ11 a).2.1 ≠ (TJ11 b).2.1 := by decide +kernel
theorem tyJ11_ok : ∀ k, k < 0 → parseFieldDescriptor (TJ11 k).2.2.1 = some (tyJ11 k) := by decide +kernel
abbrev cJ11_isValidCodePoint_9a6ad : ByteArray := prog_17_method_11_code
def yJ11_isValidCodePoint_9a6ad : MethodName := ⟨RJ11, "isValidCodePoint", "(I)Z"⟩
abbrev cJ11_highSurrogate_5068e : ByteArray := prog_17_method_28_code
def yJ11_highSurrogate_5068e : MethodName := ⟨RJ11, "highSurrogate", "(I)C"⟩
abbrev cJ11_lowSurrogate_5068e : ByteArray := prog_17_method_29_code
def yJ11_lowSurrogate_5068e : MethodName := ⟨RJ11, "lowSurrogate", "(I)C"⟩
def RJxb160c : String := "java/lang/Comparable"
def TJxb160c : u_T := fun k => match k with
  | _ => ("", "", "", false)
def tyJxb160c : Nat → FieldType := fun k => match k with
  | _ => .int
abbrev wsJxb160c0 : List Cond := u_ws RJxb160c TJxb160c 0
theorem nmJxb160c : ∀ a, a < 0 → ∀ b, b < 0 → a ≠ b → (TJxb160c a).2.1 ≠ (TJxb160c b).2.1 := by decide +kernel
theorem tyJxb160c_ok : ∀ k, k < 0 → parseFieldDescriptor (TJxb160c k).2.2.1 = some (tyJxb160c k) := by decide +kernel
def RJ6 : String := "java/lang/Integer"
def TJ6 : u_T := fun k => match k with
  | _ => ("", "", "", false)
def tyJ6 : Nat → FieldType := fun k => match k with
  | _ => .int
abbrev wsJ60 : List Cond := u_ws RJ6 TJ6 0
theorem nmJ6 : ∀ a, a < 0 → ∀ b, b < 0 → a ≠ b → (TJ6 a).2.1 ≠ (TJ6 b).2.1 := by decide +kernel
theorem tyJ6_ok : ∀ k, k < 0 → parseFieldDescriptor (TJ6 k).2.2.1 = some (tyJ6 k) := by decide +kernel
abbrev cJ6_compare_7cf53 : ByteArray := prog_20_method_40_code
def yJ6_compare_7cf53 : MethodName := ⟨RJ6, "compare", "(II)I"⟩
abbrev cJ6_bitCount_0f7a4 : ByteArray := prog_20_method_49_code
def yJ6_bitCount_0f7a4 : MethodName := ⟨RJ6, "bitCount", "(I)I"⟩
def RJ9 : String := "java/lang/Math"
def TJ9 : u_T := fun k => match k with
  | _ => ("", "", "", false)
def tyJ9 : Nat → FieldType := fun k => match k with
  | _ => .int
abbrev wsJ90 : List Cond := u_ws RJ9 TJ9 0
theorem nmJ9 : ∀ a, a < 0 → ∀ b, b < 0 → a ≠ b → (TJ9 a).2.1 ≠ (TJ9 b).2.1 := by decide +kernel
theorem tyJ9_ok : ∀ k, k < 0 → parseFieldDescriptor (TJ9 k).2.2.1 = some (tyJ9 k) := by decide +kernel
abbrev cJ9_abs_0f7a4 : ByteArray := prog_21_method_59_code
def yJ9_abs_0f7a4 : MethodName := ⟨RJ9, "abs", "(I)I"⟩
abbrev cJ9_max_7cf53 : ByteArray := prog_21_method_65_code
def yJ9_max_7cf53 : MethodName := ⟨RJ9, "max", "(II)I"⟩
abbrev cJ9_max_f86c9 : ByteArray := prog_21_method_66_code
def yJ9_max_f86c9 : MethodName := ⟨RJ9, "max", "(JJ)J"⟩
abbrev cJ9_min_7cf53 : ByteArray := prog_21_method_69_code
def yJ9_min_7cf53 : MethodName := ⟨RJ9, "min", "(II)I"⟩
def RJ0 : String := "java/lang/String"
def TJ0 : u_T := fun k => match k with
  | _ => ("", "", "", false)
def tyJ0 : Nat → FieldType := fun k => match k with
  | _ => .int
abbrev wsJ00 : List Cond := u_ws RJ0 TJ0 0
theorem nmJ0 : ∀ a, a < 0 → ∀ b, b < 0 → a ≠ b → (TJ0 a).2.1 ≠ (TJ0 b).2.1 := by decide +kernel
theorem tyJ0_ok : ∀ k, k < 0 → parseFieldDescriptor (TJ0 k).2.2.1 = some (tyJ0 k) := by decide +kernel
abbrev cJ0_length_8abf5 : ByteArray := prog_23_method_54_code
def yJ0_length_8abf5 : MethodName := ⟨RJ0, "length", "()I"⟩
abbrev cJ0_charAt_5068e : ByteArray := prog_23_method_56_code
def yJ0_charAt_5068e : MethodName := ⟨RJ0, "charAt", "(I)C"⟩
abbrev cJ0_indexOf_0f7a4 : ByteArray := prog_23_method_79_code
def yJ0_indexOf_0f7a4 : MethodName := ⟨RJ0, "indexOf", "(I)I"⟩
abbrev cJ0_indexOf_7cf53 : ByteArray := prog_23_method_80_code
def yJ0_indexOf_7cf53 : MethodName := ⟨RJ0, "indexOf", "(II)I"⟩
abbrev cJ0_coder_7d493 : ByteArray := prog_23_method_152_code
def yJ0_coder_7d493 : MethodName := ⟨RJ0, "coder", "()B"⟩
abbrev cJ0_isLatin1_aae02 : ByteArray := prog_23_method_154_code
def yJ0_isLatin1_aae02 : MethodName := ⟨RJ0, "isLatin1", "()Z"⟩
abbrev cJ0_checkIndex_df160 : ByteArray := prog_23_method_155_code
def yJ0_checkIndex_df160 : MethodName := ⟨RJ0, "checkIndex", "(II)V"⟩
abbrev cJ0_checkBoundsBeginEnd_23922 : ByteArray := prog_23_method_158_code
def yJ0_checkBoundsBeginEnd_23922 : MethodName := ⟨RJ0, "checkBoundsBeginEnd", "(III)V"⟩
def RJ1 : String := "java/lang/StringLatin1"
def TJ1 : u_T := fun k => match k with
  | _ => ("", "", "", false)
def tyJ1 : Nat → FieldType := fun k => match k with
  | _ => .int
abbrev wsJ10 : List Cond := u_ws RJ1 TJ1 0
theorem nmJ1 : ∀ a, a < 0 → ∀ b, b < 0 → a ≠ b → (TJ1 a).2.1 ≠ (TJ1 b).2.1 := by decide +kernel
theorem tyJ1_ok : ∀ k, k < 0 → parseFieldDescriptor (TJ1 k).2.2.1 = some (tyJ1 k) := by decide +kernel
abbrev cJ1_charAt_3b067 : ByteArray := prog_24_method_2_code
def yJ1_charAt_3b067 : MethodName := ⟨RJ1, "charAt", "([BI)C"⟩
abbrev cJ1_canEncode_9a6ad : ByteArray := prog_24_method_4_code
def yJ1_canEncode_9a6ad : MethodName := ⟨RJ1, "canEncode", "(I)Z"⟩
abbrev cJ1_indexOf_4cfef : ByteArray := prog_24_method_22_code
def yJ1_indexOf_4cfef : MethodName := ⟨RJ1, "indexOf", "([BIII)I"⟩
abbrev cJ1_indexOfChar_4cfef : ByteArray := prog_24_method_23_code
def yJ1_indexOfChar_4cfef : MethodName := ⟨RJ1, "indexOfChar", "([BIII)I"⟩
def RJ2 : String := "java/lang/StringUTF16"
def TJ2 : u_T := fun k => match k with
  | _ => ("", "", "", false)
def tyJ2 : Nat → FieldType := fun k => match k with
  | _ => .int
abbrev wsJ20 : List Cond := u_ws RJ2 TJ2 0
theorem nmJ2 : ∀ a, a < 0 → ∀ b, b < 0 → a ≠ b → (TJ2 a).2.1 ≠ (TJ2 b).2.1 := by decide +kernel
theorem tyJ2_ok : ∀ k, k < 0 → parseFieldDescriptor (TJ2 k).2.2.1 = some (tyJ2 k) := by decide +kernel
abbrev cJ2_getChar_3b067 : ByteArray := prog_25_method_5_code
def yJ2_getChar_3b067 : MethodName := ⟨RJ2, "getChar", "([BI)C"⟩
abbrev cJ2_length_9d52b : ByteArray := prog_25_method_6_code
def yJ2_length_9d52b : MethodName := ⟨RJ2, "length", "([B)I"⟩
abbrev cJ2_indexOf_4cfef : ByteArray := prog_25_method_40_code
def yJ2_indexOf_4cfef : MethodName := ⟨RJ2, "indexOf", "([BIII)I"⟩
abbrev cJ2_indexOfChar_4cfef : ByteArray := prog_25_method_47_code
def yJ2_indexOfChar_4cfef : MethodName := ⟨RJ2, "indexOfChar", "([BIII)I"⟩
abbrev cJ2_indexOfCharUnsafe_4cfef : ByteArray := prog_25_method_48_code
def yJ2_indexOfCharUnsafe_4cfef : MethodName := ⟨RJ2, "indexOfCharUnsafe", "([BIII)I"⟩
abbrev cJ2_indexOfSupplementary_4cfef : ByteArray := prog_25_method_49_code
def yJ2_indexOfSupplementary_4cfef : MethodName := ⟨RJ2, "indexOfSupplementary", "([BIII)I"⟩
abbrev cJ2_charAt_3b067 : ByteArray := prog_25_method_83_code
def yJ2_charAt_3b067 : MethodName := ⟨RJ2, "charAt", "([BI)C"⟩
abbrev cJ2_checkIndex_2214a : ByteArray := prog_25_method_91_code
def yJ2_checkIndex_2214a : MethodName := ⟨RJ2, "checkIndex", "(I[B)V"⟩
abbrev cJ2_checkBoundsBeginEnd_d044e : ByteArray := prog_25_method_93_code
def yJ2_checkBoundsBeginEnd_d044e : MethodName := ⟨RJ2, "checkBoundsBeginEnd", "(II[B)V"⟩
def RJ10 : String := "java/lang/System"
def TJ10 : u_T := fun k => match k with
  | _ => ("", "", "", false)
def tyJ10 : Nat → FieldType := fun k => match k with
  | _ => .int
abbrev wsJ100 : List Cond := u_ws RJ10 TJ10 0
theorem nmJ10 : ∀ a, a < 0 → ∀ b, b < 0 → a ≠ b → (TJ10 a).2.1 ≠ (TJ10 b).2.1 := by decide +kernel
theorem tyJ10_ok : ∀ k, k < 0 → parseFieldDescriptor (TJ10 k).2.2.1 = some (tyJ10 k) := by decide +kernel
def RJxfd54e : String := "java/lang/constant/Constable"
def TJxfd54e : u_T := fun k => match k with
  | _ => ("", "", "", false)
def tyJxfd54e : Nat → FieldType := fun k => match k with
  | _ => .int
abbrev wsJxfd54e0 : List Cond := u_ws RJxfd54e TJxfd54e 0
theorem nmJxfd54e : ∀ a, a < 0 → ∀ b, b < 0 → a ≠ b → (TJxfd54e a).2.1 ≠ (TJxfd54e b).2.1 := by decide +kernel
theorem tyJxfd54e_ok : ∀ k, k < 0 → parseFieldDescriptor (TJxfd54e k).2.2.1 = some (tyJxfd54e k) := by decide +kernel
def RJx3cf43 : String := "java/lang/constant/ConstantDesc"
def TJx3cf43 : u_T := fun k => match k with
  | _ => ("", "", "", false)
def tyJx3cf43 : Nat → FieldType := fun k => match k with
  | _ => .int
abbrev wsJx3cf430 : List Cond := u_ws RJx3cf43 TJx3cf43 0
theorem nmJx3cf43 : ∀ a, a < 0 → ∀ b, b < 0 → a ≠ b → (TJx3cf43 a).2.1 ≠ (TJx3cf43 b).2.1 := by decide +kernel
theorem tyJx3cf43_ok : ∀ k, k < 0 → parseFieldDescriptor (TJx3cf43 k).2.2.1 = some (tyJx3cf43 k) := by decide +kernel
def RJ7 : String := "java/util/Arrays"
def TJ7 : u_T := fun k => match k with
  | _ => ("", "", "", false)
def tyJ7 : Nat → FieldType := fun k => match k with
  | _ => .int
abbrev wsJ70 : List Cond := u_ws RJ7 TJ7 0
theorem nmJ7 : ∀ a, a < 0 → ∀ b, b < 0 → a ≠ b → (TJ7 a).2.1 ≠ (TJ7 b).2.1 := by decide +kernel
theorem tyJ7_ok : ∀ k, k < 0 → parseFieldDescriptor (TJ7 k).2.2.1 = some (tyJ7 k) := by decide +kernel
abbrev cJ7_fill_53178 : ByteArray := prog_30_method_103_code
def yJ7_fill_53178 : MethodName := ⟨RJ7, "fill", "([II)V"⟩
def RJ3 : String := "jdk/internal/util/Preconditions"
def TJ3 : u_T := fun k => match k with
  | _ => ("", "", "", false)
def tyJ3 : Nat → FieldType := fun k => match k with
  | _ => .int
abbrev wsJ30 : List Cond := u_ws RJ3 TJ3 0
theorem nmJ3 : ∀ a, a < 0 → ∀ b, b < 0 → a ≠ b → (TJ3 a).2.1 ≠ (TJ3 b).2.1 := by decide +kernel
theorem tyJ3_ok : ∀ k, k < 0 → parseFieldDescriptor (TJ3 k).2.2.1 = some (tyJ3 k) := by decide +kernel
abbrev cJ3_checkIndex_8e157 : ByteArray := prog_32_method_11_code
def yJ3_checkIndex_8e157 : MethodName := ⟨RJ3, "checkIndex", "(IILjava/util/function/BiFunction;)I"⟩
abbrev cJ3_checkFromToIndex_8c36e : ByteArray := prog_32_method_12_code
def yJ3_checkFromToIndex_8c36e : MethodName := ⟨RJ3, "checkFromToIndex", "(IIILjava/util/function/BiFunction;)I"⟩
def RL : String := "OldLiftLaw"
abbrev cL_look : ByteArray := method_3_code
def yL_look : MethodName := ⟨RL, "look", "(LOldLift;I[J)I"⟩
abbrev cL_law : ByteArray := code
def yL_law : MethodName := ⟨RL, "law", "([I)Z"⟩
abbrev vwCl : List vw_C := [(RX0, TX0, 14), (RX1, TX1, 5), (RX2, TX2, 7), (RX3, TX3, 14), (RX4, TX4, 5), (RX5, TX5, 8), (RX6, TX6, 17), (RX7, TX7, 7), (RX8, TX8, 2), (RX9, TX9, 5), (RX10, TX10, 20), (RX11, TX11, 9), (RX12, TX12, 82)]
