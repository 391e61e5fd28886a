section VBR
variable {X : CT} {k0 : List Nat} {Q : State → Prop} {ks : List Nat} {g : List (Nat × Nat)} {h : PH} {mc ms pc : Nat} {lv : List (Option Value)} {st : List Value} {cc : ByteArray} {nL : Nat} {own : String} {fr lo mx sx : Nat}
theorem B_aload_n (C : CB X cc nL own fr lo mx sx) {j : Fin 4} {x : Nat} (d : decode cc pc = .ok (.aload_n j, 1)) (hv : lv[(j : Nat)]? = some (some (.ref x))) (k : VB X k0 Q ks g h mc ms (pc + 1) lv (.ref x :: st)) : VB X k0 Q ks g h mc ms pc lv st := by
  obtain ⟨p, e, R, s, m, args, below, meth, c, l, D, ad0, cA, nh⟩ := X
  obtain ⟨hx, hb, hml, hown, hts, hK, hN, hfr, hlo, hmx, hsx⟩ := C
  intro ad H locs ls hB hP hS hl
  exact lv_aload_n hx hb d rfl (hl.2.2 _ _ hv) (k ad H locs ls hB hP hS hl)
theorem B_iconst (C : CB X cc nL own fr lo mx sx) {n : Int} {v : Int32} (d : decode cc pc = .ok (.iconst n, 1)) (hv : Int32.ofInt n = v) (k : VB X k0 Q ks g h mc ms (pc + 1) lv (.int v :: st)) : VB X k0 Q ks g h mc ms pc lv st := by
  obtain ⟨p, e, R, s, m, args, below, meth, c, l, D, ad0, cA, nh⟩ := X
  obtain ⟨hx, hb, hml, hown, hts, hK, hN, hfr, hlo, hmx, hsx⟩ := C
  intro ad H locs ls hB hP hS hl
  exact lv_iconst hx hb d hv (k ad H locs ls hB hP hS hl)
theorem B_bipush (C : CB X cc nL own fr lo mx sx) {n : Int} {v : Int32} (d : decode cc pc = .ok (.bipush n, 2)) (hv : (Int8.ofInt n).toInt32 = v) (k : VB X k0 Q ks g h mc ms (pc + 2) lv (.int v :: st)) : VB X k0 Q ks g h mc ms pc lv st := by
  obtain ⟨p, e, R, s, m, args, below, meth, c, l, D, ad0, cA, nh⟩ := X
  obtain ⟨hx, hb, hml, hown, hts, hK, hN, hfr, hlo, hmx, hsx⟩ := C
  intro ad H locs ls hB hP hS hl
  exact lv_bipush hx hb d hv (k ad H locs ls hB hP hS hl)
theorem B_sipush (C : CB X cc nL own fr lo mx sx) {n : Int} {v : Int32} (d : decode cc pc = .ok (.sipush n, 3)) (hv : (Int16.ofInt n).toInt32 = v) (k : VB X k0 Q ks g h mc ms (pc + 3) lv (.int v :: st)) : VB X k0 Q ks g h mc ms pc lv st := by
  obtain ⟨p, e, R, s, m, args, below, meth, c, l, D, ad0, cA, nh⟩ := X
  obtain ⟨hx, hb, hml, hown, hts, hK, hN, hfr, hlo, hmx, hsx⟩ := C
  intro ad H locs ls hB hP hS hl
  exact lv_sipush hx hb d hv (k ad H locs ls hB hP hS hl)
theorem B_dup (C : CB X cc nL own fr lo mx sx) {a : Nat} (d : decode cc pc = .ok (.dup, 1)) (k : VB X k0 Q ks g h mc ms (pc + 1) lv (.ref a :: .ref a :: st)) : VB X k0 Q ks g h mc ms pc lv (.ref a :: st) := by
  obtain ⟨p, e, R, s, m, args, below, meth, c, l, D, ad0, cA, nh⟩ := X
  obtain ⟨hx, hb, hml, hown, hts, hK, hN, hfr, hlo, hmx, hsx⟩ := C
  intro ad H locs ls hB hP hS hl
  exact lv_dup hx hb d rfl (k ad H locs ls hB hP hS hl)
theorem B_objInit (C : CB X cc nL own fr lo mx sx) {i a : Nat} (d : decode cc pc = .ok (.invokespecial i, 3)) (hl0 : Cond.methodLink own i Lib.objectInit ∈ BW) (hi : Cond.instanceMethod Lib.objectInit ∈ BW) (hc : Cond.code Lib.objectInit ⟨#[0xb1]⟩ 1 none ∈ BW) (hf : 1 ≤ fr) (hlo2 : sumcat st + 12 ≤ lo) (k : VB X k0 Q ks g h mc ms (pc + 3) lv st) : VB X k0 Q ks g h mc ms pc lv (.ref a :: st) := by
  obtain ⟨p, e, R, s, m, args, below, meth, c, l, D, ad0, cA, nh⟩ := X
  obtain ⟨hx, hb, hml, hown, hts, hK, hN, hfr, hlo, hmx, hsx⟩ := C
  intro ad H locs ls hB hP hS hl
  exact W.objInit hx hb hown (hts _ hl0) (hts _ hi) (hts _ hc) rfl hl.1 rfl d (Nat.le_trans hf hfr) (by show 2 * 0 + ((st.map (tr ad)).map fun v => v.category).sum + 12 ≤ _; rw [sumcat_tr]; omega) (k ad H locs ls hB hP hS hl)
theorem mapIdx_setR {ad : Nat → Nat} {g : List (Nat × Nat)} {h : PH} {k j r : Nat} {fl : List Nat} (hj : fl[j]? = some (r + 2)) : (fl.mapIdx (fun j q => fvB ad g h k j q)).set j (.ref (ad r)) = fl.mapIdx (fun j' q => fvB ad ((k, j) :: g) h k j' q) := by
  apply List.ext_getElem?
  intro i
  by_cases e : j = i
  · subst e
    rw [List.getElem?_set_self (by rw [List.length_mapIdx]; exact (List.getElem?_eq_some_iff.mp hj).1), List.getElem?_mapIdx, hj]
    simp [fvB]
  · rw [List.getElem?_set_ne e, List.getElem?_mapIdx, List.getElem?_mapIdx]
    cases hi : fl[i]? with
    | none => rfl
    | some q =>
      match q with
      | 0 => rfl
      | 1 => rfl
      | r + 2 =>
        simp only [Option.map_some, fvB, List.contains_cons]
        have : ((k, i) == (k, j)) = false := by simp; exact fun z => e z.symm
        rw [this, Bool.false_or]
theorem mapIdx_setN {ad : Nat → Nat} {g : List (Nat × Nat)} {h : PH} {k j : Nat} {x : Int32} {fl : List Nat} (hj : fl[j]? = some 0) : (fl.mapIdx (fun j q => fvB ad g h k j q)).set j (.int x) = fl.mapIdx (fun j' q => fvB ad g (hs h k j x) k j' q) := by
  apply List.ext_getElem?
  intro i
  by_cases e : j = i
  · subst e
    rw [List.getElem?_set_self (by rw [List.length_mapIdx]; exact (List.getElem?_eq_some_iff.mp hj).1), List.getElem?_mapIdx, hj]
    simp [fvB, hs, upd]
  · rw [List.getElem?_set_ne e, List.getElem?_mapIdx, List.getElem?_mapIdx]
    cases hi : fl[i]? with
    | none => rfl
    | some q =>
      match q with
      | 0 => simp [fvB, hs, upd]; exact fun z => absurd z.symm e
      | 1 => rfl
      | r + 2 => rfl
/-- one object's fields change: the rest of the world stays -/
theorem WB_set {ad : Nat → Nat} {cA : Nat → ClassId} {g g' : List (Nat × Nat)} {h h' : PH} {i k : Nat} {ci : Nat} {fl : List Nat} {vs : List Value} (nd : ks.Nodup) (hi : ks[i]? = some k) (hs0 : sh k = .inl (ci, fl)) (hv : vs = fl.mapIdx (fun j q => fvB ad g' h' k j q)) (eo : ∀ a, a ≠ k → (h'.1 a = h.1 a ∧ h'.2 a = h.2 a) ∧ ∀ j, g'.contains (a, j) = g.contains (a, j)) : (WB ks ad cA g h).set i (ad k, .inr (ci, vs)) = WB ks ad cA g' h' := by
  apply List.ext_getElem?
  intro j
  by_cases e : i = j
  · subst e
    rw [List.getElem?_set_self (by unfold WB; rw [List.length_map]; exact (List.getElem?_eq_some_iff.mp hi).1), WB_ix hi, hs0, hv]
    rfl
  · rw [List.getElem?_set_ne e]
    cases hj : ks[j]? with
    | none => unfold WB; rw [List.getElem?_map, List.getElem?_map, hj]; rfl
    | some a =>
      rw [WB_ix hj, WB_ix hj]
      have ne : a ≠ k := fun z => e ((List.getElem?_inj (List.getElem?_eq_some_iff.mp hi).1 nd).mp (hi.trans (by rw [hj, z])))
      rw [cellB_c (eo a ne).1.1 (eo a ne).1.2 (eo a ne).2 (fun _ _ => rfl)]
theorem B_putR (C : CB X cc nL own fr lo mx sx) {i ci j a r B : Nat} {ty : FieldType} {fin : Bool} (d : decode cc pc = .ok (.putfield i, 3)) (lk : LKF own i ci j ty fin) (fk : FK B a ci j (r + 2)) (hm : a ∈ ks) (hf : fin = true → NB X ∧ (vwCl[ci]?).map (fun q => q.1) = some own) (hty : kdF ty = 2) (k : VB X k0 Q ks ((a, j) :: g) h mc ms (pc + 3) lv st) : VB X k0 Q ks g h mc ms pc lv (.ref r :: .ref a :: st) := by
  obtain ⟨p, e, R, s, m, args, below, meth, c, l, D, ad0, cA, nh⟩ := X
  obtain ⟨hx, hb, hml, hown, hts, hK, hN, hfr, hlo, hmx, hsx⟩ := C
  intro ad H locs ls hB hP hS hl
  obtain ⟨Cn, T, N, tyf, c1, c2, c3, c4, c5, c6, c7, c8, c9⟩ := lk
  obtain ⟨f1, fl, f2, f3⟩ := fk
  obtain ⟨ix, hix⟩ := List.getElem?_of_mem hm
  have he : (WB ks ad cA g h)[ix]? = some (ad a, .inr (ci, fl.mapIdx (fun j q => fvB ad g h a j q))) := by rw [WB_ix hix, f2]; rfl
  have hd := c5 j c2
  rw [c8] at hd
  have hn : narrow ty (.ref (ad r)) = .ref (ad r) := by cases ty <;> first | rfl | (simp [kdF] at hty)
  have hft : fits ty (.ref (ad r)) = true := by cases ty <;> first | rfl | (simp [kdF] at hty)
  have hw : (WB ks ad cA g h).set ix (ad a, .inr (ci, (fl.mapIdx (fun j q => fvB ad g h a j q)).set j (.ref (ad r)))) = WB ks ad cA ((a, j) :: g) h := WB_set hB.1 hix f2 (mapIdx_setR f3) (fun b ne => ⟨⟨rfl, rfl⟩, fun j' => by
    rw [List.contains_cons, show ((b, j') == (a, j)) = false by simp [ne], Bool.false_or]⟩)
  cases fin with
  | false => exact va_put (v := .ref (ad r)) hx hb hts c4 tyf c5 c6 hown hK hP (BD_D hB) hS ix he c1 j c2 (hts _ c3) (by rw [c7]; exact fun _ z => z) c9 hd hn hft (by rw [List.length_mapIdx]; exact (List.getElem?_eq_some_iff.mp f3).1) d (fun H1 locs1 hP1 _ hS1 => k ad H1 locs1 ls hB (by rw [hw] at hP1; exact hP1) hS1 hl)
  | true =>
    obtain ⟨⟨-, -, n3⟩, n4⟩ := hf rfl
    rw [c1] at n4
    have hco : Cn = own := Option.some.inj n4
    exact va_putF (v := .ref (ad r)) hx hb hts c4 tyf c5 c6 hown hK hP (BD_D hB) hS ix he c1 j c2 (hts _ c3) (by rw [c7]; exact fun _ z => z) c9 n3 (c7.trans hco) hd hn hft (by rw [List.length_mapIdx]; exact (List.getElem?_eq_some_iff.mp f3).1) d (fun H1 locs1 hP1 _ hS1 => k ad H1 locs1 ls hB (by rw [hw] at hP1; exact hP1) hS1 hl)
theorem B_putI (C : CB X cc nL own fr lo mx sx) {i ci j a B : Nat} {ty : FieldType} {x : Int32} (d : decode cc pc = .ok (.putfield i, 3)) (lk : LKF own i ci j ty false) (fk : FK B a ci j 0) (hm : a ∈ ks) (hn : narrow ty (.int x) = .int x) (hft : fits ty (.int x) = true) (k : VB X k0 Q ks g (hs h a j x) mc ms (pc + 3) lv st) : VB X k0 Q ks g h mc ms pc lv (.int x :: .ref a :: st) := by
  obtain ⟨p, e, R, s, m, args, below, meth, c, l, D, ad0, cA, nh⟩ := X
  obtain ⟨hx, hb, hml, hown, hts, hK, hN, hfr, hlo, hmx, hsx⟩ := C
  intro ad H locs ls hB hP hS hl
  obtain ⟨Cn, T, N, tyf, c1, c2, c3, c4, c5, c6, c7, c8, c9⟩ := lk
  obtain ⟨f1, fl, f2, f3⟩ := fk
  obtain ⟨ix, hix⟩ := List.getElem?_of_mem hm
  have he : (WB ks ad cA g h)[ix]? = some (ad a, .inr (ci, fl.mapIdx (fun j q => fvB ad g h a j q))) := by rw [WB_ix hix, f2]; rfl
  have hd := c5 j c2
  rw [c8] at hd
  have hw : (WB ks ad cA g h).set ix (ad a, .inr (ci, (fl.mapIdx (fun j q => fvB ad g h a j q)).set j (.int x))) = WB ks ad cA g (hs h a j x) := WB_set hB.1 hix f2 (mapIdx_setN f3) (fun b ne => ⟨⟨by simp [hs, ne], rfl⟩, fun _ => rfl⟩)
  exact va_put (v := .int x) hx hb hts c4 tyf c5 c6 hown hK hP (BD_D hB) hS ix he c1 j c2 (hts _ c3) (by rw [c7]; exact fun _ z => z) c9 hd hn hft (by rw [List.length_mapIdx]; exact (List.getElem?_eq_some_iff.mp f3).1) d (fun H1 locs1 hP1 _ hS1 => k ad H1 locs1 ls hB (by rw [hw] at hP1; exact hP1) hS1 hl)
theorem B_getR (C : CB X cc nL own fr lo mx sx) {i ci j a r B : Nat} {ty : FieldType} {fin : Bool} (d : decode cc pc = .ok (.getfield i, 3)) (lk : LKF own i ci j ty fin) (fk : FK B a ci j (r + 2)) (hm : a ∈ ks) (hg : g.contains (a, j) = true) (k : VB X k0 Q ks g h mc ms (pc + 3) lv (.ref r :: st)) : VB X k0 Q ks g h mc ms pc lv (.ref a :: st) := by
  obtain ⟨p, e, R, s, m, args, below, meth, c, l, D, ad0, cA, nh⟩ := X
  obtain ⟨hx, hb, hml, hown, hts, hK, hN, hfr, hlo, hmx, hsx⟩ := C
  intro ad H locs ls hB hP hS hl
  obtain ⟨Cn, T, N, tyf, c1, c2, c3, c4, c5, c6, c7, c8, c9⟩ := lk
  obtain ⟨f1, fl, f2, f3⟩ := fk
  obtain ⟨ix, hix⟩ := List.getElem?_of_mem hm
  have he : (WB ks ad cA g h)[ix]? = some (ad a, .inr (ci, fl.mapIdx (fun j q => fvB ad g h a j q))) := by rw [WB_ix hix, f2]; rfl
  exact va_get hx hb hts c4 hown hK hP ix he c1 j c2 (hts _ c3) (by rw [c7]; exact fun _ z => z) (v := .ref (ad r)) (by rw [List.getElem?_mapIdx, f3]; simp only [Option.map_some, fvB]; rw [if_pos hg]) d (k ad H locs ls hB hP hS hl)
/-- the cells' addresses behind new cells -/
theorem BD_more {ks nw : List Nat} {ad0 ad ad' : Nat → Nat} {sz : Nat} (b : BD k0 ks ad0 ad sz) (nd : (ks ++ nw).Nodup) (ha : ∀ a, a ∉ nw → ad' a = ad a) (hi : ∀ i j, i ∈ nw → j ∈ nw → ad' i = ad' j → i = j) (h1 : ∀ a, a ∈ nw → sz ≤ ad' a) (h2 : ∀ a c, a ∈ ks → c ∈ nw → ad a ≠ ad' c) : BD k0 (ks ++ nw) ad0 ad' sz := by
  obtain ⟨b1, b2, b3, b4, b5⟩ := b
  have dj : ∀ a, a ∈ ks → a ∉ nw := fun a m z => (List.nodup_append.mp nd).2.2 a m a z rfl
  have e : ∀ a, a ∈ ks → ad' a = ad a := fun a m => ha a (dj a m)
  refine ⟨nd, fun i j mi mj z => ?_, fun k hk => ?_, fun k hk => ?_, fun k hk => List.mem_append_left _ (b5 k hk)⟩
  · rcases List.mem_append.mp mi with ni | ni <;> rcases List.mem_append.mp mj with nj | nj
    · rw [e i ni, e j nj] at z; exact b2 i j ni nj z
    · rw [e i ni] at z; exact absurd z (h2 i j ni nj)
    · rw [e j nj] at z; exact absurd z.symm (h2 j i nj ni)
    · exact hi i j ni nj z
  · rcases hk with nk | nk
    · rw [e k (b5 k nk)]; exact b3 k (Or.inl nk)
    · rw [ha k (fun z => nk (List.mem_append_right _ z))]; exact b3 k (Or.inr (fun z => nk (List.mem_append_left _ z)))
  · rcases List.mem_append.mp hk with nk | nk
    · rw [e k nk]; exact b4 k nk
    · exact Or.inr (h1 k nk)
theorem BD_push {ks : List Nat} {ad0 ad : Nat → Nat} {sz n q : Nat} (b : BD k0 ks ad0 ad sz) (hn : n ∉ ks) (h1 : sz ≤ q) (h2 : ∀ a, a ∈ ks → ad a ≠ q) : BD k0 (ks ++ [n]) ad0 (fun a => if a = n then q else ad a) sz := by
  refine BD_more b ?_ (fun a z => if_neg (by simpa using z)) (fun i j mi mj _ => by simp at mi mj; rw [mi, mj]) (fun a m => by simp at m; subst m; rw [if_pos rfl]; exact h1) (fun a c ma mc => by simp at mc; subst mc; rw [if_pos rfl]; exact h2 a ma)
  rw [List.nodup_append]
  exact ⟨b.1, by simp, fun a ma c mc => by simp at mc; subst mc; exact fun z => hn (z ▸ ma)⟩
def NWK (own : String) (i ci k N : Nat) : Prop := ∃ (Cn : String) (T : u_T) (tyf : Nat → FieldType) (fl : List Nat), vwCl[ci]? = some (Cn, T, N) ∧ Cond.classLink own i Cn ∈ BW ∧ Cond.instantiable Cn N ∈ BW ∧ Cond.initialized Cn ∈ BW ∧ (∀ w ∈ u_ws Cn T N, w ∈ BW) ∧ (∀ k, k < N → parseFieldDescriptor (T k).2.2.1 = some (tyf k)) ∧ sh k = .inl (ci, fl) ∧ fl.length = N ∧ ∀ j, j < N → kdF (tyf j) = min (fl.getD j 0) 2
theorem B_new (C : CB X cc nL own fr lo mx sx) {i ci n N : Nat} (d : decode cc pc = .ok (.new i, 3)) (nk : NWK own i ci n N) (hn : ks.contains n = false) (hz : Zr n h) (hg : g.all (fun q => q.1 != n) = true) (hc : closB ks [n] g = true) (hl0 : lnk [n] lv st = true) (h1 : mc + 1 ≤ mx) (h2 : ms + N ≤ sx) (k : VB X k0 Q (ks ++ [n]) g h (mc + 1) (ms + N) (pc + 3) lv (.ref n :: st)) : VB X k0 Q ks g h mc ms pc lv st := by
  obtain ⟨p, e, R, s, m, args, below, meth, c, l, D, ad0, cA, nh⟩ := X
  obtain ⟨hx, hb, hml, hown, hts, hK, hN, hfr, hlo, hmx, hsx⟩ := C
  intro ad H locs ls hB hP hS hl
  obtain ⟨Cn, T, tyf, fl, c1, c2, c3, c4, c5, c6, c7, c8, c9⟩ := nk
  have hnm : n ∉ ks := by simpa using hn
  have hgn : ∀ j, g.contains (n, j) = false := fun j => by
    rw [List.contains_eq_mem, decide_eq_false_iff_not]
    intro z
    have := List.all_eq_true.mp hg _ z
    simp at this
  have hfs : ∀ j, j < N → defaultValue (tyf j) = vp_V (fl.mapIdx (fun j q => fvB ad g h n j q)) j := by
    intro j hj
    have hjl : j < fl.length := by omega
    unfold vp_V
    rw [List.getD_eq_getElem?_getD, List.getElem?_mapIdx, List.getElem?_eq_getElem hjl]
    have c := c9 j hj
    rw [List.getD_eq_getElem?_getD, List.getElem?_eq_getElem hjl] at c
    simp only [Option.getD_some, Option.map_some] at c ⊢
    rw [kdF_d (by omega), c]
    match fl[j] with
    | 0 => simp [fvB, dv0, hz.1]
    | 1 => simp [fvB, dv0, hz.2]
    | r + 2 => rw [show min (r + 2) 2 = 2 by omega]; simp [fvB, dv0, hgn, -List.contains_eq_mem]
  refine va_new (fs := fl.mapIdx (fun j q => fvB ad g h n j q)) hx hb hts c5 tyf c6 hown (hts _ c2) (hts _ c3) (hts _ c4) hK hP (BD_D hB) hS (fun q z => Or.inr z) c1 hfs (by omega) (by omega) d (fun q H1 hP1 hD1 hS1 => ?_)
  have hne : ∀ a, a ∈ ks → ad a ≠ q := by
    intro a ha z
    obtain ⟨ix, hix⟩ := List.getElem?_of_mem ha
    have hlt : ix < (WB ks ad cA g h).length := by unfold WB; rw [List.length_map]; exact (List.getElem?_eq_some_iff.mp hix).1
    have := hD1.1 ix (WB ks ad cA g h).length _ _ (by rw [List.getElem?_append_left hlt]; exact WB_ix hix) (by rw [List.getElem?_append_right (Nat.le_refl _), Nat.sub_self]; rfl) z
    omega
  have hsz : s.heap.size ≤ q := by
    rcases hD1.2 (WB ks ad cA g h).length (q, _) (by rw [List.getElem?_append_right (Nat.le_refl _), Nat.sub_self]; rfl) with ⟨a, a1, a2⟩ | z
    · exact absurd (show ad a = q by rw [hB.2.2.1 a (Or.inl a1)]; exact a2.symm) (hne a (hB.2.2.2.2 a a1))
    · exact z
  have ha : ∀ a, a ∉ [n] → (if a = n then q else ad a) = ad a := fun a z => if_neg (by simpa using z)
  have hB1 := BD_push hB hnm hsz hne
  have := k (fun a => if a = n then q else ad a) H1 locs ls hB1 (PBo (fun a ma => ?_)) hS1 (LV_c ha hl0 hl)
  · rw [List.map_cons, st_c ha hl0, show tr (fun a => if a = n then q else ad a) (.ref n) = .ref q by simp [tr]] at this
    exact this
  · rcases List.mem_append.mp ma with ma | ma
    · obtain ⟨z1, z2⟩ := closB_k hc ma
      obtain ⟨ix, hix⟩ := List.getElem?_of_mem ma
      rw [cellB_c (g := g) (ad := ad) rfl rfl (fun _ => rfl) (fun r hr => ha r (z2 r hr)), ha a z1]
      exact hP1 ix _ (by rw [List.getElem?_append_left (by unfold WB; rw [List.length_map]; exact (List.getElem?_eq_some_iff.mp hix).1)]; exact WB_ix hix)
    · simp at ma
      subst ma
      rw [if_pos rfl]
      have hq := hP1 (WB ks ad cA g h).length _ (by rw [List.getElem?_append_right (Nat.le_refl _), Nat.sub_self]; rfl)
      have e0 : refsB g a = [] := by
        unfold refsB
        rw [c7]
        simp only
        rw [List.filterMap_eq_nil_iff]
        intro x _
        rw [hgn, if_neg (by decide)]
      rw [cellB_c (g := g) (ad := ad) rfl rfl (fun _ => rfl) (fun r hr => by rw [e0] at hr; exact absurd hr List.not_mem_nil), c7]
      exact hq
end VBR
