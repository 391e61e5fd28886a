/-! worlds while they are being made: ks the cells made so far, g the reference fields that are set -/
def fvB (ad : Nat → Nat) (g : List (Nat × Nat)) (h : PH) (k j q : Nat) : Value := match q with
  | 0 => .int (h.1 k j)
  | 1 => .long (h.2 k j)
  | r + 2 => if g.contains (k, j) = true then .ref (ad r) else .null
def cellB (ad : Nat → Nat) (cA : Nat → ClassId) (g : List (Nat × Nat)) (h : PH) (k : Nat) (s : SH) : va_E := match s with
  | .inl (ci, fl) => .inr (ci, fl.mapIdx (fun j q => fvB ad g h k j q))
  | .inr q => cellE ad cA h k (.inr q)
def WB (ks : List Nat) (ad : Nat → Nat) (cA : Nat → ClassId) (g : List (Nat × Nat)) (h : PH) : va_W := ks.map (fun k => (ad k, cellB ad cA g h k (sh k)))
def refsB (g : List (Nat × Nat)) (k : Nat) : List Nat := match sh k with
  | .inl (_, fl) => fl.zipIdx.filterMap (fun q => if g.contains (k, q.2) = true then (match q.1 with | r + 2 => some r | _ => none) else none)
  | .inr (t, n, b) => if 4 ≤ t then (List.range n).map (fun i => b + i) else []
def closB (ks nw : List Nat) (g : List (Nat × Nat)) : Bool := ks.all (fun k => !(nw.contains k) && (refsB g k).all (fun r => !(nw.contains r)))
def vnk (nw : List Nat) : Value → Bool
  | .ref a => !(nw.contains a)
  | _ => true
def lnk (nw : List Nat) (lv : List (Option Value)) (st : List Value) : Bool := lv.all (fun o => match o with | some v => vnk nw v | none => true) && st.all (vnk nw)
theorem PBa {D : va_G} {ks : List Nat} {ad : Nat → Nat} {cA : Nat → ClassId} {g : List (Nat × Nat)} {h : PH} {H : Heap} (hP : va_P D vwCl (WB ks ad cA g h) H) {k : Nat} (hk : k ∈ ks) : va_at D vwCl (ad k, cellB ad cA g h k (sh k)) H := by
  obtain ⟨i, hi⟩ := List.getElem?_of_mem hk
  exact hP i _ (by unfold WB; rw [List.getElem?_map, hi]; rfl)
theorem PBo {D : va_G} {ks : List Nat} {ad : Nat → Nat} {cA : Nat → ClassId} {g : List (Nat × Nat)} {h : PH} {H : Heap} (f : ∀ k ∈ ks, va_at D vwCl (ad k, cellB ad cA g h k (sh k)) H) : va_P D vwCl (WB ks ad cA g h) H := by
  intro i q hi
  unfold WB at hi
  rw [List.getElem?_map] at hi
  cases hk : ks[i]? with
  | none => rw [hk] at hi; cases hi
  | some k =>
    rw [hk] at hi
    cases hi
    exact f k (List.mem_of_getElem? hk)
theorem WB_ix {ks : List Nat} {ad : Nat → Nat} {cA : Nat → ClassId} {g : List (Nat × Nat)} {h : PH} {i k : Nat} (hi : ks[i]? = some k) : (WB ks ad cA g h)[i]? = some (ad k, cellB ad cA g h k (sh k)) := by
  unfold WB; rw [List.getElem?_map, hi]; rfl
theorem cellB_c {ad ad' : Nat → Nat} {cA : Nat → ClassId} {g g' : List (Nat × Nat)} {h h' : PH} {k : Nat} (e1 : h'.1 k = h.1 k) (e2 : h'.2 k = h.2 k) (eg : ∀ j, g'.contains (k, j) = g.contains (k, j)) (ea : ∀ r ∈ refsB g k, ad' r = ad r) : cellB ad' cA g' h' k (sh k) = cellB ad cA g h k (sh k) := by
  unfold refsB at ea
  rcases hs0 : sh k with ⟨ci, fl⟩ | ⟨t, n, b⟩
  · rw [hs0] at ea
    simp only [cellB]
    congr 2
    apply List.ext_getElem?
    intro j
    rw [List.getElem?_mapIdx, List.getElem?_mapIdx]
    cases hj : fl[j]? with
    | none => rfl
    | some q =>
      simp only [Option.map_some, Option.some.injEq]
      match q, hj with
      | 0, _ => simp only [fvB, e1]
      | 1, _ => simp only [fvB, e2]
      | r + 2, hj =>
        simp only [fvB, eg]
        by_cases hg : g.contains (k, j) = true
        · rw [if_pos hg, if_pos hg, ea r (List.mem_filterMap.mpr ⟨(r + 2, j), List.mem_zipIdx_iff_getElem?.mpr hj, by simp only [hg]; rfl⟩)]
        · rw [if_neg hg, if_neg hg]
  · rw [hs0] at ea
    simp only [cellB]
    match t, ea with
    | 0, _ => simp only [cellE, e1]
    | 1, _ => simp only [cellE, e1]
    | 2, _ => simp only [cellE, e1]
    | 3, _ => simp only [cellE, e2]
    | t + 4, ea =>
      simp only [cellE]
      congr 7
      funext i
      by_cases hi : i < n
      · rw [if_pos hi, if_pos hi, ea (b + i) (by show b + i ∈ (if 4 ≤ t + 4 then (List.range n).map (fun i => b + i) else []); rw [if_pos (by omega)]; exact List.mem_map.mpr ⟨i, List.mem_range.mpr hi, rfl⟩)]
      · rw [if_neg hi, if_neg hi]
def ADB (k0 : List Nat) (ad : Nat → Nat) (sz : Nat) : Nat → Prop := fun q => (∃ k, k ∈ k0 ∧ q = ad k) ∨ sz ≤ q
def BD (k0 ks : List Nat) (ad0 ad : Nat → Nat) (sz : Nat) : Prop := ks.Nodup ∧ (∀ i j, i ∈ ks → j ∈ ks → ad i = ad j → i = j) ∧ (∀ k, (k ∈ k0 ∨ k ∉ ks) → ad k = ad0 k) ∧ (∀ k, k ∈ ks → k ∈ k0 ∨ sz ≤ ad k) ∧ ∀ k, k ∈ k0 → k ∈ ks
theorem BD_D {k0 ks : List Nat} {ad0 ad : Nat → Nat} {sz : Nat} {cA : Nat → ClassId} {g : List (Nat × Nat)} {h : PH} (b : BD k0 ks ad0 ad sz) : va_D (ADB k0 ad0 sz) (WB ks ad cA g h) := by
  obtain ⟨b1, b2, b3, b4, b5⟩ := b
  have key : ∀ (i : Nat) (q : Nat × va_E), (WB ks ad cA g h)[i]? = some q → ∃ k, ks[i]? = some k ∧ q.1 = ad k := by
    intro i q hq
    unfold WB at hq
    rw [List.getElem?_map] at hq
    cases hk : ks[i]? with
    | none => rw [hk] at hq; cases hq
    | some k => rw [hk] at hq; cases hq; exact ⟨k, rfl, rfl⟩
  refine ⟨fun i j x y h1 h2 e => ?_, fun i q h1 => ?_⟩
  · obtain ⟨a, a1, a2⟩ := key i x h1
    obtain ⟨c, c1, c2⟩ := key j y h2
    have e3 : a = c := b2 a c (List.mem_of_getElem? a1) (List.mem_of_getElem? c1) (by rw [← a2, ← c2]; exact e)
    subst e3
    exact (List.getElem?_inj (List.getElem?_eq_some_iff.mp a1).1 b1).mp (a1.trans c1.symm)
  · obtain ⟨a, a1, a2⟩ := key i q h1
    rw [a2]
    have m := List.mem_of_getElem? a1
    rcases b4 a m with z | z
    · exact Or.inl ⟨a, z, b3 a (Or.inl z)⟩
    · exact Or.inr z
theorem BD_lt {D : va_G} {ks : List Nat} {ad : Nat → Nat} {cA : Nat → ClassId} {g : List (Nat × Nat)} {h : PH} {H : Heap} (hP : va_P D vwCl (WB ks ad cA g h) H) {k : Nat} (hk : k ∈ ks) : ad k < H.size := (PBa hP hk).lt
def VB (X : CT) (k0 : List Nat) (Q : State → Prop) (ks : List Nat) (g : List (Nat × Nat)) (h : PH) (mc ms pc : Nat) (lv : List (Option Value)) (st : List Value) : Prop := match X with
  | (p, e, R, s, m, args, below, meth, c, l, D, ad0, cA, nh) => ∀ (ad : Nat → Nat) (H : Heap) (locs : List Loc) (ls : Array Slot), BD k0 ks ad0 ad s.heap.size → va_P D vwCl (WB ks ad cA g h) H → va_S (ADB k0 ad0 s.heap.size) s.heap H locs → LV ad ls c.maxLocals lv → W p l e R s m args below meth c H locs mc ms Q (F0 m pc ls (st.map (tr ad)))
def CB (X : CT) (cc : ByteArray) (nL : Nat) (own : String) (fr lo mx sx : Nat) : Prop := match X with
  | (p, e, R, s, m, args, below, meth, c, l, D, ad, cA, nh) => p.tables.exec = Jvm.exec ∧ c.code = cc ∧ c.maxLocals = nL ∧ s.vm.findClass own = some m.cls ∧ (∀ w ∈ BW, w.before args s = true) ∧ va_K D vwCl (TY cA) s ∧ NWM s ∧ fr ≤ R.frames ∧ lo ≤ R.locals ∧ mx ≤ R.cells ∧ sx ≤ R.slots
def NB (X : CT) : Prop := match X with
  | (p, e, R, s, m, args, below, meth, c, l, D, ad, cA, nh) => meth.sig.returnType = none ∧ meth.locks = false ∧ meth.name = "<init>"
theorem tr_c {ad ad' : Nat → Nat} {nw : List Nat} (ha : ∀ a, a ∉ nw → ad' a = ad a) {v : Value} (hv : vnk nw v = true) : tr ad' v = tr ad v := by
  cases v with
  | ref a => simp only [vnk, Bool.not_eq_true', List.contains_eq_mem, decide_eq_false_iff_not] at hv; simp only [tr, ha a hv]
  | _ => rfl
theorem st_c {ad ad' : Nat → Nat} {nw : List Nat} (ha : ∀ a, a ∉ nw → ad' a = ad a) {lv : List (Option Value)} {st : List Value} (hv : lnk nw lv st = true) : st.map (tr ad') = st.map (tr ad) := by
  simp only [lnk, Bool.and_eq_true, List.all_eq_true] at hv
  exact List.map_congr_left (fun v m => tr_c ha (hv.2 v m))
theorem LV_c {ad ad' : Nat → Nat} {nw : List Nat} (ha : ∀ a, a ∉ nw → ad' a = ad a) {lv : List (Option Value)} {st : List Value} (hv : lnk nw lv st = true) {ls : Array Slot} {nL : Nat} (hl : LV ad ls nL lv) : LV ad' ls nL lv := by
  simp only [lnk, Bool.and_eq_true, List.all_eq_true] at hv
  refine ⟨hl.1, hl.2.1, fun i v hi => ?_⟩
  rw [tr_c ha (hv.1 (some v) (List.mem_of_getElem? hi))]
  exact hl.2.2 i v hi
theorem closB_k {ks nw : List Nat} {g : List (Nat × Nat)} (h : closB ks nw g = true) {k : Nat} (hk : k ∈ ks) : k ∉ nw ∧ ∀ r ∈ refsB g k, r ∉ nw := by
  simp only [closB, List.all_eq_true, Bool.and_eq_true, Bool.not_eq_true', List.contains_eq_mem, decide_eq_false_iff_not] at h
  exact h k hk
def Zr (k : Nat) (h : PH) : Prop := (∀ j, h.1 k j = 0) ∧ ∀ j, h.2 k j = 0
theorem zr_s {k a j : Nat} {x : Int32} {h : PH} (n : k ≠ a) (z : Zr k h) : Zr k (hs h a j x) := ⟨fun i => by rw [show (hs h a j x).1 k i = h.1 k i by simp [hs, n]]; exact z.1 i, z.2⟩
/-- a new object's fields -/
def kdF : FieldType → Nat
  | .int => 0
  | .boolean => 0
  | .char => 0
  | .byte => 0
  | .short => 0
  | .long => 1
  | .float => 7
  | .double => 7
  | _ => 2
def dv0 : Nat → Value
  | 0 => .int 0
  | 1 => .long 0
  | _ => .null
theorem kdF_d {t : FieldType} (h : kdF t ≤ 2) : defaultValue t = dv0 (kdF t) := by
  cases t <;> first | rfl | (simp [kdF] at h)
