section VBM
variable {p : Program} {l : Launch} {e : Env} {R : Room} {s : State} {m : MethodId} {args : Array Value} {below : List Frame} {meth : Method} {c : Code} {H : Heap} {locs : List Loc} {cells slots : Nat} {Q : State → Prop}
theorem outer_mh (cA : ClassId) (N h0 : Nat) : ∀ i, (Jvm.Free.Multi.outerC cA N h0 i).monitor = {} ∧ (Jvm.Free.Multi.outerC cA N h0 i).hash = none := by
  intro i
  induction i with
  | zero => exact ⟨rfl, rfl⟩
  | succ i ih => exact ⟨ih.1, ih.2⟩
theorem outer_arrV (cA : ClassId) (N h0 : Nat) : Jvm.Free.Multi.outerC cA N h0 N = arrV cA N (fun j => .ref (h0 + 1 + j)) := by
  obtain ⟨o1, o2, o3⟩ := Jvm.Free.Multi.outerC_facts cA N h0 N
  have o4 := fun j hj => Jvm.Free.Multi.outerC_slot cA N h0 N j hj
  obtain ⟨o5, o6⟩ := outer_mh cA N h0 N
  generalize Jvm.Free.Multi.outerC cA N h0 N = z at *
  obtain ⟨z1, z2, z3, z4, z5⟩ := z
  simp only at o1 o2 o3 o4 o5 o6
  subst o1 o2 o5 o6
  unfold arrV
  congr 1
  apply Array.ext
  · simp [o3]
  · intro i hi1 hi2
    have q := o4 i (by omega)
    rw [Array.getElem?_eq_getElem hi1, if_pos (by omega)] at q
    simpa using q
theorem W_multi {cc : ByteArray} (hexec : p.tables.exec = Jvm.exec) (hb : c.code = cc) {own : String} {index : Nat} (hown : s.vm.findClass own = some m.cls) (hclink : (Cond.classLink own index "[[I").before args s = true) (hover : (Cond.arrayOver (.array .int)).before args s = true) (harr : (Cond.arrayClass .int).before args s = true)
    {pc : Nat} {ls : Array Slot} {rest : List Value} (hdg : decode cc pc = .ok (.multianewarray index 2, 4)) {n k : Int32} {N M : Nat} (hn : ¬ n < 0) (hk : ¬ k < 0) (hN : n.toNatClampNeg = N) (hM : k.toNatClampNeg = M) (hb1 : N ≤ 100000) (hb2 : M ≤ 100000) (hcells : cells + (1 + N) ≤ R.cells) (hslots : slots + (N + N * M) ≤ R.slots)
    (kk : ∀ (H1 : Heap) (cA comp : ClassId), s.vm.findClass "[[I" = some cA → s.vm.findClass "[I" = some comp → H1.size = H.size + 1 + N → (∀ q, q < H.size → H1[q]? = H[q]?) → H1[H.size]? = some (arrV cA N (fun j => .ref (H.size + 1 + j))) → (∀ j, j < N → H1[H.size + 1 + j]? = some (arrV comp M (fun _ => .int 0))) →
      W p l e R s m args below meth c H1 locs (cells + 1 + N) (slots + N + N * M) Q (F0 m (pc + 4) ls (.ref H.size :: rest))) : W p l e R s m args below meth c H locs cells slots Q (F0 m pc ls (.int k :: .int n :: rest)) := by
  intro T hT X
  subst hT; subst hb; subst hN; subst hM
  obtain ⟨vm₁, cA, comp, hW, hfA, hfC, -, -, X1, step⟩ := X.multianewarray2F hexec (ty := .int) hown hclink hover harr (g := F0 m pc ls (.int k :: .int n :: rest)) rfl hdg rfl hn hk (by omega) (by show k.toNatClampNeg * 4 ≤ _; omega) (by omega) rfl rfl hcells hslots
  obtain ⟨f1, f2, -⟩ := Jvm.Free.Multi.fill_facts (T.setVm vm₁) cA comp n.toNatClampNeg k.toNatClampNeg (defaultValue .int) n.toNatClampNeg
  obtain ⟨t, a1, b1⟩ := kk (Jvm.Free.Multi.fill (T.setVm vm₁) cA comp n.toNatClampNeg k.toNatClampNeg (defaultValue .int) n.toNatClampNeg).heap cA comp hfA hfC f1
    (fun q hq => Jvm.Free.Multi.fill_old (T.setVm vm₁) cA comp _ _ _ hq _)
    (by rw [← outer_arrV]; exact f2)
    (fun j hj => by rw [← arrV_new]; exact Jvm.Free.Multi.fill_inner (T.setVm vm₁) cA comp _ _ _ _ j hj) _ rfl X1
  exact ⟨t, step t a1, b1⟩
end VBM
def exB (X : CT) (Ex : (Nat → Nat) → State → Prop) : Prop := match X with
  | (p, e, R, s, m, args, below, meth, c, l, D, ad0, cA, nh) => Ex ad0 s
/-- the class of rows of rows is there -/
abbrev noX : (Nat → Nat) → State → Prop := fun _ U => (Cond.arrayOver (.array .int)).before #[] U = true
section VBN
variable {X : CT} {k0 : List Nat} {Q : State → Prop} {ks : List Nat} {g : List (Nat × Nat)} {h : PH} {mc ms pc : Nat} {lv : List (Option Value)} {st : List Value} {cc : ByteArray} {nL : Nat} {own : String} {fr lo mx sx : Nat}
theorem ty_find {cA : Nat → ClassId} {D : va_G} {s : State} (hK : va_K D vwCl (TY cA) s) : s.vm.findClass "[I" = some (cA 0) ∧ s.vm.findClass "[C" = some (cA 1) ∧ s.vm.findClass "[Z" = some (cA 2) ∧ s.vm.findClass "[J" = some (cA 3) ∧ s.vm.findClass "[[I" = some (cA 4) :=
  ⟨(hK.2 0 _ rfl).2, (hK.2 1 _ rfl).2, (hK.2 2 _ rfl).2, (hK.2 3 _ rfl).2, (hK.2 4 _ rfl).2⟩
theorem B_newa (C : CB X cc nL own fr lo mx sx) {atype : ArrayType} {n t N : Nat} {v : Int32} (d : decode cc pc = .ok (.newarray atype, 2)) (hty : newarray.typeOf atype = tyN t) (ht : t < 4) (harr : Cond.arrayClass (tyN t) ∈ BW) (hs0 : sh n = .inr (t, N, 0)) (hv : v.toNatClampNeg = N) (hv0 : ¬ v < 0) (hby : N ≤ 100000) (hn : ks.contains n = false) (hz : Zr n h) (hc : closB ks [n] g = true) (hl0 : lnk [n] lv st = true) (h1 : mc + 1 ≤ mx) (h2 : ms + N ≤ sx) (k : VB X k0 Q (ks ++ [n]) g h (mc + 1) (ms + N) (pc + 2) lv (.ref n :: st)) : VB X k0 Q ks g h mc ms pc lv (.int v :: st) := by
  obtain ⟨p, e, R, s, m, args, below, meth, c, l, D, ad0, cA, nh⟩ := X
  obtain ⟨hx, hb, hml, hown, hts, hK, hN, hfr, hlo, hmx, hsx⟩ := C
  intro ad H locs ls hB hP hS hl
  have hnm : n ∉ ks := by simpa using hn
  have hbt : N * componentBytes (newarray.typeOf atype) ≤ 536870912 := by
    have : componentBytes (newarray.typeOf atype) ≤ 8 := by
      rw [hty]
      rcases (show t = 0 ∨ t = 1 ∨ t = 2 ∨ t = 3 by omega) with rfl | rfl | rfl | rfl <;> decide
    exact Nat.le_trans (Nat.mul_le_mul hby this) (by decide)
  refine va_newaK (N := N) (h := H.size) hx hb (by rw [hty]; exact hts _ harr) rfl d rfl hv0 hv hbt (by omega) (by omega) rfl (fun H1 cA1 e1 z1 o1 hAr hNm => ?_)
  have hne : ∀ a, a ∈ ks → ad a ≠ H.size := fun a ma => Nat.ne_of_lt (BD_lt hP ma)
  have ha : ∀ a, a ∉ [n] → (if a = n then H.size else ad a) = ad a := fun a z => if_neg (by simpa using z)
  have hcl : cA1 = cA t := by
    obtain ⟨t0, t1, t2, t3, t4⟩ := ty_find hK
    rw [hty] at hNm
    rcases (show t = 0 ∨ t = 1 ∨ t = 2 ∨ t = 3 by omega) with rfl | rfl | rfl | rfl
    · exact Option.some.inj (hNm.symm.trans t0)
    · exact Option.some.inj (hNm.symm.trans t1)
    · exact Option.some.inj (hNm.symm.trans t2)
    · exact Option.some.inj (hNm.symm.trans t3)
  have := k (fun a => if a = n then H.size else ad a) H1 locs ls (BD_push hB hnm hS.1 hne) (PBo (fun a ma => ?_)) ⟨Nat.le_trans hS.1 (by omega), fun x q1 q2 => (o1 x (Nat.lt_of_lt_of_le q1 hS.1)).trans (hS.2.1 x q1 q2), hS.2.2⟩ (LV_c ha hl0 hl)
  · rw [List.map_cons, st_c ha hl0, show tr (fun a => if a = n then H.size else ad a) (.ref n) = .ref H.size by simp [tr]] at this
    exact this
  · rcases List.mem_append.mp ma with na | na
    · obtain ⟨w1, w2⟩ := closB_k hc na
      rw [cellB_c (g := g) (ad := ad) rfl rfl (fun _ => rfl) (fun r hr => ha r (w2 r hr)), ha a w1]
      exact (PBa hP na).kept (o1 _ (BD_lt hP na))
    · simp at na
      subst na
      rw [if_pos rfl, hs0]
      subst hcl
      rw [hty] at e1
      rcases (show t = 0 ∨ t = 1 ∨ t = 2 ∨ t = 3 by omega) with rfl | rfl | rfl | rfl
      · show H1[H.size]? = some (arrV (cA 0) N (fun j => .int (h.1 a j)))
        rw [e1]; congr 2; funext j; rw [hz.1]; rfl
      · show H1[H.size]? = some (arrV (cA 1) N (fun j => .int (h.1 a j)))
        rw [e1]; congr 2; funext j; rw [hz.1]; rfl
      · show H1[H.size]? = some (arrV (cA 2) N (fun j => .int (h.1 a j)))
        rw [e1]; congr 2; funext j; rw [hz.1]; rfl
      · show H1[H.size]? = some (arrV (cA 3) N (fun j => .long (h.2 a j)))
        rw [e1]; congr 2; funext j; rw [hz.2]; rfl
theorem B_multi (C : CB X cc nL own fr lo mx sx) {i n N M : Nat} {v w : Int32} {nw : List Nat} (d : decode cc pc = .ok (.multianewarray i 2, 4)) (hcl : Cond.classLink own i "[[I" ∈ BW) (hov : exB X noX) (harr : Cond.arrayClass .int ∈ BW) (hs0 : sh n = .inr (4, N, n + 1)) (hs1 : ∀ j, j < N → sh (n + 1 + j) = .inr (0, M, 0)) (hv : v.toNatClampNeg = N) (hw : w.toNatClampNeg = M) (hv0 : ¬ v < 0) (hw0 : ¬ w < 0) (hby : N ≤ 100000) (hby2 : M ≤ 100000) (hnw : nw = (List.range (1 + N)).map (fun j => n + j)) (hnd : ks.all (fun a => !(nw.contains a)) = true) (hz : ∀ a, a ∈ nw → Zr a h) (hc : closB ks nw g = true) (hl0 : lnk nw lv st = true) (h1 : mc + (1 + N) ≤ mx) (h2 : ms + (N + N * M) ≤ sx) (k : VB X k0 Q (ks ++ nw) g h (mc + 1 + N) (ms + N + N * M) (pc + 4) lv (.ref n :: st)) : VB X k0 Q ks g h mc ms pc lv (.int w :: .int v :: st) := by
  obtain ⟨p, e, R, s, m, args, below, meth, c, l, D, ad0, cA, nh⟩ := X
  obtain ⟨hx, hb, hml, hown, hts, hK, hN, hfr, hlo, hmx, hsx⟩ := C
  intro ad H locs ls hB hP hS hl
  have mem : ∀ a, a ∈ nw ↔ n ≤ a ∧ a < n + 1 + N := fun a => by
    rw [hnw, List.mem_map]
    constructor
    · rintro ⟨j, j1, rfl⟩; have := List.mem_range.mp j1; omega
    · rintro ⟨a1, a2⟩; exact ⟨a - n, List.mem_range.mpr (by omega), by omega⟩
  have dj : ∀ a, a ∈ ks → a ∉ nw := fun a ma => by
    have := List.all_eq_true.mp hnd a ma
    simpa using this
  refine W_multi hx hb hown (hts _ hcl) (over_moved (Vm.Alike.refl s.vm) (show (Cond.arrayOver (.array .int)).before #[] s = true from hov)) (hts _ harr) d hv0 hw0 hv hw hby hby2 (by omega) (by omega) (fun H1 cA1 comp q1 q2 q3 q4 q5 q6 => ?_)
  obtain ⟨t0, t1, t2, t3, t4⟩ := ty_find hK
  have e1 : cA1 = cA 4 := Option.some.inj (q1.symm.trans t4)
  have e2 : comp = cA 0 := Option.some.inj (q2.symm.trans t0)
  subst e1 e2
  have ha : ∀ a, a ∉ nw → (if n ≤ a ∧ a < n + 1 + N then H.size + (a - n) else ad a) = ad a := fun a z => if_neg (fun y => z ((mem a).mpr y))
  have hp : ∀ a, a ∈ nw → (if n ≤ a ∧ a < n + 1 + N then H.size + (a - n) else ad a) = H.size + (a - n) := fun a z => if_pos ((mem a).mp z)
  have nd : (ks ++ nw).Nodup := by
    rw [List.nodup_append]
    refine ⟨hB.1, ?_, fun a ma b mb z => dj a ma (z ▸ mb)⟩
    rw [hnw, List.nodup_iff_pairwise_ne]
    exact List.Pairwise.map _ (fun a b z => by omega) (List.nodup_iff_pairwise_ne.mp List.nodup_range)
  have hB1 : BD k0 (ks ++ nw) ad0 (fun a => if n ≤ a ∧ a < n + 1 + N then H.size + (a - n) else ad a) s.heap.size := BD_more hB nd ha (fun a b ma mb z => by
      rw [hp a ma, hp b mb] at z
      have := (mem a).mp ma
      have := (mem b).mp mb
      omega) (fun a ma => by rw [hp a ma]; exact Nat.le_trans hS.1 (by omega)) (fun a b ma mb => by rw [hp b mb]; have := BD_lt hP ma; omega)
  have := k _ H1 locs ls hB1 (PBo (fun a ma => ?_)) ⟨Nat.le_trans hS.1 (by omega), fun x w1 w2 => (q4 x (Nat.lt_of_lt_of_le w1 hS.1)).trans (hS.2.1 x w1 w2), hS.2.2⟩ (LV_c ha hl0 hl)
  · rw [List.map_cons, st_c ha hl0] at this
    simp only [tr, show n ≤ n ∧ n < n + 1 + N from ⟨by omega, by omega⟩, if_true, and_self, Nat.sub_self, Nat.add_zero] at this
    exact this
  · rcases List.mem_append.mp ma with na | na
    · obtain ⟨w1, w2⟩ := closB_k hc na
      rw [cellB_c (g := g) (ad := ad) rfl rfl (fun _ => rfl) (fun r hr => ha r (w2 r hr)), ha a w1]
      exact (PBa hP na).kept (q4 _ (BD_lt hP na))
    · rw [hp a na]
      obtain ⟨w1, w2⟩ := (mem a).mp na
      by_cases z : a = n
      · subst z
        rw [hs0]
        show H1[H.size + (a - a)]? = some (arrV (cA 4) N (fun j => va_rf (if j < N then some ((fun b => if a ≤ b ∧ b < a + 1 + N then H.size + (b - a) else ad b) (a + 1 + j)) else none)))
        rw [Nat.sub_self, Nat.add_zero, q5]
        congr 1
        unfold arrV
        congr 1
        apply Array.ext
        · simp
        · intro j j1 j2
          have hj : j < N := by simpa using j1
          simp only [Array.getElem_ofFn]
          rw [if_pos hj]
          show Value.ref (H.size + 1 + j) = Value.ref (if a ≤ a + 1 + j ∧ a + 1 + j < a + 1 + N then H.size + (a + 1 + j - a) else ad (a + 1 + j))
          rw [if_pos ⟨by omega, by omega⟩, show H.size + (a + 1 + j - a) = H.size + 1 + j by omega]
      · have e5 : a = n + 1 + (a - n - 1) := by omega
        have e6 := hs1 (a - n - 1) (by omega)
        rw [← e5] at e6
        rw [e6]
        show H1[H.size + (a - n)]? = some (arrV (cA 0) M (fun j => .int (h.1 a j)))
        have e7 := q6 (a - n - 1) (by omega)
        rw [show H.size + 1 + (a - n - 1) = H.size + (a - n) by omega] at e7
        rw [e7]
        congr 2
        funext j
        rw [(hz a na).1]
end VBN
