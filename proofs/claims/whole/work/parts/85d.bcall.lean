abbrev EB : Type := Launch × va_G × (Nat → ClassId)
def xB (X : CT) : EB := match X with
  | (p, e, R, s, m, args, below, meth, c, l, D, ad, cA, nh) => (l, D, cA)
def WPB (Ex : (Nat → Nat) → State → Prop) (ks : List Nat) (D : va_G) (ad : Nat → Nat) (cA : Nat → ClassId) (h : PH) (sz : Nat) (U : State) : Prop := U.heap.size = sz ∧ va_P D vwCl (WB ks ad cA [] h) U.heap ∧ va_K D vwCl (TY cA) U ∧ (ks.Nodup ∧ ∀ i j, i ∈ ks → j ∈ ks → ad i = ad j → i = j) ∧ NWM U ∧ Ex ad U
def HEX (X : CT) (k0 ks : List Nat) (Ex : (Nat → Nat) → State → Prop) : Prop := match X with
  | (p, e, R, s, m, args, below, meth, c, l, D, ad0, cA, nh) => (∀ (ad : Nat → Nat) (H : Heap) (locs : List Loc) (U : State), BD k0 ks ad0 ad s.heap.size → va_S (ADB k0 ad0 s.heap.size) s.heap H locs → U.heap = H → s.WarmedH U.vm → Ex ad U) ∧ ∀ (ad : Nat → Nat) (U : State) (g : JFrame) (mk : MethodId) (a : Array Value), Ex ad U → Ex ad (U.calling g mk a)
theorem hexT {X : CT} {k0 ks : List Nat} (h : exB X noX) : HEX X k0 ks noX := by
  obtain ⟨p, e, R, s, m, args, below, meth, c, l, D, ad0, cA, nh⟩ := X
  exact ⟨fun _ _ _ U _ _ _ hW => over_moved (u := s) (E := U) hW.alike h, fun _ U g mk a z => over_moved (u := U) (E := U.calling g mk a) (Vm.Alike.refl U.vm) z⟩
def QcB (k0 k1 : List Nat) (D : va_G) (ad : Nat → Nat) (cA : Nat → ClassId) (g : List (Nat × Nat)) (h : PH) (sz : Nat) : Array Value → State → Outcome → State → Prop := va_Qv (fun ad' : Nat → Nat => BD k0 k1 ad ad' sz) (fun ad' t => va_P D vwCl (WB k1 ad' cA g h) t.heap) (ADB k0 ad sz)
abbrev RmB (fr lo mc ms : Nat) : Room := { frames := fr, cells := mc, slots := ms, locals := lo }
def MB (Ex : (Nat → Nat) → State → Prop) (E : EB) (y : MethodName) (bytes : ByteArray) (maxL fr lo mc ms : Nat) (av : List Value) (k0 k1 : List Nat) (g : List (Nat × Nat)) (h h1 : PH) : Prop := match E with
  | (l, D, cA) => ∀ ad sz, Met l y (Cond.code y bytes maxL none :: BW) (RmB fr lo mc ms) (va_Pc (av.map (tr ad)) (WPB Ex k0 D ad cA h sz)) (QcB k0 k1 D ad cA g h1 sz) mc ms (ADB k0 ad sz)
def QB (X : CT) (k0 k1 : List Nat) (g : List (Nat × Nat)) (h : PH) (mc ms : Nat) : State → Prop := match X with
  | (p, e, R, s, m, args, below, meth, c, l, D, ad, cA, nh) => MQ below (QcB k0 k1 D ad cA g h s.heap.size) args s mc ms (ADB k0 ad s.heap.size)
theorem WPB_blind {Ex : (Nat → Nat) → State → Prop} (hb : ∀ (ad : Nat → Nat) (U : State) (g : JFrame) (mk : MethodId) (a : Array Value), Ex ad U → Ex ad (U.calling g mk a)) {ks : List Nat} {D : va_G} {ad : Nat → Nat} {cA : Nat → ClassId} {h : PH} {sz : Nat} {av : List Value} : FrameBlind (va_Pc av (WPB Ex ks D ad cA h sz)) := fun a U g mk q => by
  obtain ⟨q0, q1, q2, q3, q4, q5, q6⟩ := q
  exact ⟨q0, q1, q2, va_K.moved (u := U) (U := U.calling g mk a) (Vm.Alike.refl U.vm) q3, q4, fun q hq => va_Nw.same rfl (u := U) rfl (q5 q hq), hb _ _ _ _ _ q6⟩
theorem MB.of {Ex : (Nat → Nat) → State → Prop} {E : EB} {y : MethodName} {cc : ByteArray} {nL fr lo mc ms : Nat} {av : List Value} {k0 k1 : List Nat} {g : List (Nat × Nat)} {h h1 : PH} (kp : Nat) (hy : plainName y.cls = true) (hyn : y.name = "<init>") (hln : lnOK av nL = true)
    (body : ∀ X : CT, xB X = E → CB X cc nL y.cls fr lo mc ms → NB X → exB X Ex → VB X k0 (QB X k0 k1 g h1 mc ms) k0 [] h 0 0 0 (lvin av ++ List.replicate kp none) []) : MB Ex E y cc nL fr lo mc ms av k0 k1 g h h1 := by
  obtain ⟨l, D, cA⟩ := E
  intro ad sz
  refine Met.ofW (cc := cc) (maxL := nL) (ret := none) hy rfl ?_
  intro p e s m args below meth c s₁ B hml hv
  obtain ⟨rfl, hsz, hP, hK, hI, hN, hEx⟩ := hv
  subst hsz
  have hts := atoms_spec (ws := Cond.code y cc nL none :: BW) B.pre
  have hin : meth.name = "<init>" := (name_of_methodNamed B.named B.method).1.trans hyn
  have hl := lv_entry (av.map (tr ad)) (n := nL) (by rw [lg_map]; exact of_decide_eq_true hln)
  rw [lg_entry_eq]
  generalize (lg_sl (av.map (tr ad)) ++ List.replicate (nL - (lg_sl (av.map (tr ad))).length) Slot.unset).toArray = ls at hl ⊢
  exact body (p, e, RmB fr lo mc ms, s, m, (av.map (tr ad)).toArray, below, meth, c, l, D, ad, cA, 0) rfl ⟨B.exec, B.bytes, hml, findClass_of_methodNamed B.named, fun w hw => hts w (List.mem_cons_of_mem _ hw), hK, hN, Nat.le_refl _, Nat.le_refl _, Nat.le_refl _, Nat.le_refl _⟩ ⟨B.returns, B.notSynchronized, hin⟩ hEx ad s.heap [] ls ⟨hI.1, hI.2, fun _ _ => rfl, fun k hk => Or.inl hk, fun k hk => hk⟩ hP va_S.rf (by rw [hml]; exact LV.start hl)
section VBC
variable {X : CT} {k0 : List Nat} {Q : State → Prop} {ks : List Nat} {g : List (Nat × Nat)} {h : PH} {mc ms pc : Nat} {lv : List (Option Value)} {st : List Value} {cc : ByteArray} {nL : Nat} {own : String} {fr lo mx sx : Nat}
theorem B_vret (C : CB X cc nL own fr lo mx sx) (n : NB X) (d : decode cc pc = .ok (.return_, 1)) : VB X k0 (QB X k0 ks g h mc ms) ks g h mc ms pc lv [] := by
  obtain ⟨p, e, R, s, m, args, below, meth, c, l, D, ad0, cA, nh⟩ := X
  obtain ⟨hx, hb, hml, hown, hts, hK, hN, hfr, hlo, hmx, hsx⟩ := C
  obtain ⟨n1, n2, n3⟩ := n
  intro ad H locs ls hB hP hS hl
  exact W.vret hx hb n1 (fun t ht hW => ⟨⟨ad, rfl, hB, by show va_P D vwCl (WB ks ad cA g h) t.heap; rw [ht]; exact hP⟩, hS.F ht⟩) hS.2.2 d n2
def MC (y : MethodName) (bytes : ByteArray) (maxL : Nat) : Prop := Cond.instanceMethod y ∈ BW ∧ Cond.initialized y.cls ∈ BW ∧ Cond.code y bytes maxL none ∈ BW ∧ y.name = "<init>" ∧ y.cls ≠ "java/lang/invoke/MethodHandle" ∧ y.cls ≠ "java/lang/invoke/VarHandle"
theorem B_ctor (C : CB X cc nL own fr lo mx sx) {y : MethodName} {bytes : ByteArray} {maxL fr2 lo2 mc2 ms2 i n a : Nat} {As rest : List Value} {nw : List Nat} {g1 : List (Nat × Nat)} {h1 : PH} (d : decode cc pc = .ok (.invokespecial i, 3)) (lk : Cond.methodLink own i y ∈ BW ∨ (own, i, y, "OldLift") ∈ nwL) (mi : MC y bytes maxL) {Ex : (Nat → Nat) → State → Prop} (hex : HEX X k0 ks Ex) (hM : MB Ex (xB X) y bytes maxL fr2 lo2 mc2 ms2 (.ref a :: As) [a] (a :: nw) g1 h h1) (hn : As.length = n) (hd : (parseMethodDescriptor y.desc).map (fun d => d.parameters.length) = some n) (hf : fr2 + 1 ≤ fr) (hlo2 : 8 + (maxL + 11) + lo2 ≤ lo) (hst : st = As.reverse ++ .ref a :: rest) (hc : sumcat rest ≤ 8) (hr1 : mc + mc2 ≤ mx) (hr2 : ms + ms2 ≤ sx)
    (ham : a ∈ ks) (hnd : closB ks nw g = true) (hnn : nw.Nodup) (hga : g.all (fun q => q.1 != a && !(nw.contains q.1)) = true) (hg1 : g1.all (fun q => (a :: nw).contains q.1) = true) (hl0 : lnk nw lv rest = true) (he : ∀ b, b ∉ (a :: nw) → h1.1 b = h.1 b ∧ h1.2 b = h.2 b) (k : VB X k0 Q (ks ++ nw) (g1 ++ g) h1 (mc + mc2) (ms + ms2) (pc + 3) lv rest) : VB X k0 Q ks g h mc ms pc lv st := by
  obtain ⟨p, e, R, s, m, args, below, meth, c, l, D, ad0, cA, nh⟩ := X
  obtain ⟨hx, hb, hml, hown, hts, hK, hN, hfr, hlo, hmx, hsx⟩ := C
  intro ad H locs ls hB hP hS hl
  obtain ⟨m1, m3, m4, m6, m7, m8⟩ := mi
  subst hst
  have gnot : ∀ b j, b = a ∨ b ∈ nw → g.contains (b, j) = false := fun b j hbj => by
    rw [List.contains_eq_mem, decide_eq_false_iff_not]
    intro z
    have := List.all_eq_true.mp hga _ z
    simp at this
    rcases hbj with rfl | hbj
    · exact this.1 rfl
    · exact this.2 hbj
  have g1not : ∀ b j, b ∉ (a :: nw) → g1.contains (b, j) = false := fun b j hbj => by
    rw [List.contains_eq_mem, decide_eq_false_iff_not]
    intro z
    have := List.all_eq_true.mp hg1 _ z
    rw [List.contains_eq_mem, decide_eq_true_iff] at this
    exact hbj this
  have e0 : cellB ad cA [] h a (sh a) = cellB ad cA g h a (sh a) := (cellB_c rfl rfl (fun j => by rw [gnot a j (Or.inl rfl)]; rfl) (fun _ _ => rfl))
  have hPa : va_P D vwCl (WB [a] ad cA [] h) H := PBo (fun b hb1 => by simp at hb1; subst hb1; rw [e0]; exact PBa hP ham)
  have dj : ∀ b, b ∈ ks → b ∉ nw := fun b mb => (closB_k hnd mb).1
  have hA1 : ∀ q, ADB [a] ad H.size q → ADB k0 ad0 s.heap.size q := by
    intro q hq
    rcases hq with ⟨b, b1, b2⟩ | hq
    · simp at b1; subst b1
      rcases hB.2.2.2.1 b ham with z | z
      · exact Or.inl ⟨b, z, by rw [b2]; exact hB.2.2.1 b (Or.inl z)⟩
      · exact Or.inr (by rw [b2]; exact z)
    · exact Or.inr (Nat.le_trans hS.1 hq)
  have pre : PreS s H (va_Pc ((Value.ref a :: As).map (tr ad)) (WPB Ex [a] D ad cA h H.size)) (.ref (ad a) :: As.map (tr ad)) := ⟨WPB_blind hex.2, fun U hU hW => ⟨rfl, by rw [hU], by rw [hU]; exact hPa, va_K.moved hW.alike hK, ⟨by simp, fun i j hi hj _ => by simp at hi hj; rw [hi, hj]⟩, hN.warm hW, hex.1 ad H locs U hB hS hU hW⟩⟩
  have run : va_Run p l e R s m args below meth c H locs mc ms mc2 ms2 (F0 m pc ls ((As.reverse ++ .ref a :: rest).map (tr ad))) (rest.map (tr ad)) (QcB [a] (a :: nw) D ad cA g1 h1 H.size (Value.ref (ad a) :: As.map (tr ad)).toArray) (ADB [a] ad H.size) := by
    have hsk : (F0 m pc ls ((As.reverse ++ .ref a :: rest).map (tr ad))).stack = (As.map (tr ad)).reverse ++ .ref (ad a) :: rest.map (tr ad) := by
      show List.map (tr ad) (As.reverse ++ .ref a :: rest) = _
      rw [List.map_append, List.map_reverse]; rfl
    rcases lk with lk | lk
    · exact va_runI (As := As.map (tr ad)) (rest := rest.map (tr ad)) (b := ad a) ⟨hx, hb, hml, hown, hts⟩ (hM ad H.size) (cwI n hts (bw_cons m4) rfl rfl rfl (hts _ m3) (hts _ lk) (hts _ m1) m6 ⟨m7, m8, hd⟩ ⟨Nat.le_trans hf hfr, Nat.le_trans hlo2 hlo⟩) pre rfl (by rw [List.length_map]; exact hn) (by show ls.size = nL; rw [hl.1, hml]) hsk (lv_room (by rw [sumcat_tr]; exact hc)) d ⟨Nat.le_trans hr1 hmx, Nat.le_trans hr2 hsx⟩
    · exact va_runIN (As := As.map (tr ad)) (rest := rest.map (tr ad)) (b := ad a) ⟨hx, hb, hml, hown, hts⟩ (hM ad H.size) ⟨va_cnB n hts (bw_cons m4) rfl rfl rfl (hN _ lk) (hts _ m3) ⟨m7, m8, hd⟩ ⟨Nat.le_trans hf hfr, Nat.le_trans hlo2 hlo⟩, m6, hts _ m1⟩ pre rfl (by rw [List.length_map]; exact hn) (by show ls.size = nL; rw [hl.1, hml]) hsk (lv_room (by rw [sumcat_tr]; exact hc)) d ⟨Nat.le_trans hr1 hmx, Nat.le_trans hr2 hsx⟩
  refine va_callv run hS (fun q _ z => hA1 q z) hA1 (fun ad' t H1 locs1 ht hvm hw hBt hz hk hS1 => ?_)
  rw [ht] at hBt
  obtain ⟨w1, w2, w3, w4, w5⟩ := hw
  have ha : ∀ b, b ∉ nw → ad' b = ad b := fun b nb => w3 b (by
    by_cases z : b = a
    · exact Or.inl (by simp [z])
    · exact Or.inr (by simp [z, nb]))
  have hnew : ∀ b, b ∈ nw → H.size ≤ ad' b := fun b nb => by
    rcases w4 b (List.mem_cons_of_mem _ nb) with z | z
    · simp at z; subst z; exact absurd nb (dj b ham)
    · exact z
  have hB1 : BD k0 (ks ++ nw) ad0 ad' s.heap.size := BD_more hB (by
      rw [List.nodup_append]
      exact ⟨hB.1, hnn, fun b mb b' mb' z => dj b mb (z ▸ mb')⟩) ha (fun i j mi mj z => w2 i j (List.mem_cons_of_mem _ mi) (List.mem_cons_of_mem _ mj) z) (fun b nb => Nat.le_trans hS.1 (hnew b nb)) (fun b b' mb nb => by have := BD_lt hP mb; have := hnew b' nb; omega)
  rw [← st_c ha hl0]
  refine k ad' H1 locs1 ls hB1 (PBo (fun b mb => ?_)) hS1 (LV_c ha hl0 hl)
  by_cases hbk : b ∈ (a :: nw)
  · have : cellB ad' cA (g1 ++ g) h1 b (sh b) = cellB ad' cA g1 h1 b (sh b) := cellB_c rfl rfl (fun j => by
      rw [List.contains_eq_mem, List.contains_eq_mem]
      have q1 := gnot b j (by simpa using hbk)
      rw [List.contains_eq_mem, decide_eq_false_iff_not] at q1
      simp [q1]) (fun _ _ => rfl)
    rw [this]
    exact PBa hBt hbk
  · have hbs : b ∈ ks := by
      rcases List.mem_append.mp mb with z | z
      · exact z
      · exact absurd (List.mem_cons_of_mem _ z) hbk
    have hba : b ≠ a := fun z => hbk (by simp [z])
    have : cellB ad' cA (g1 ++ g) h1 b (sh b) = cellB ad cA g h b (sh b) := cellB_c (he b hbk).1 (he b hbk).2 (fun j => by
      rw [List.contains_eq_mem, List.contains_eq_mem]
      have q1 := g1not b j hbk
      rw [List.contains_eq_mem, decide_eq_false_iff_not] at q1
      simp [q1]) (fun r hr => ha r ((closB_k hnd hbs).2 r hr))
    rw [this, ha b (dj b hbs)]
    have hlt := BD_lt hP hbs
    refine (PBa hP hbs).kept (hk (ad b) hlt (fun z => ?_))
    rcases z with ⟨b2, c1, c2⟩ | z
    · simp at c1; subst c1; exact hba (hB.2.1 b b2 hbs ham c2)
    · omega
def fullB (n : Nat) (g : List (Nat × Nat)) : Bool := (List.range n).all (fun k => match sh k with
  | .inl (_, fl) => fl.zipIdx.all (fun q => decide (q.1 < 2) || g.contains (k, q.2))
  | .inr _ => true)
theorem cellB_full {n : Nat} {ad : Nat → Nat} {cA : Nat → ClassId} (hg : fullB n g = true) {k : Nat} (hk : k < n) : cellB ad cA g h k (sh k) = cellE ad cA h k (sh k) := by
  have q := List.all_eq_true.mp hg k (List.mem_range.mpr hk)
  rcases hs0 : sh k with ⟨ci, fl⟩ | q0
  · rw [hs0] at q
    simp only [cellB, cellE]
    congr 2
    apply List.ext_getElem?
    intro j
    rw [List.getElem?_mapIdx, List.getElem?_mapIdx]
    cases hj : fl[j]? with
    | none => rfl
    | some v =>
      match v, hj with
      | 0, _ => rfl
      | 1, _ => rfl
      | r + 2, hj =>
        have q1 := List.all_eq_true.mp q (r + 2, j) (List.mem_zipIdx_iff_getElem?.mpr hj)
        simp only [Bool.or_eq_true, decide_eq_true_eq] at q1
        have q2 : g.contains (k, j) = true := by
          rcases q1 with z | z
          · omega
          · exact z
        simp only [Option.map_some, fvB, fv]
        rw [if_pos q2]
  · rfl
end VBC
