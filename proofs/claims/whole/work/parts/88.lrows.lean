/-! the law's frame: every cell of the systems is new; counts of cells and slots are carried (rows printed by wip/whole/gen2/lrows.py out of 03) -/
def VL (X : CT) (kc ks : Nat) (Q : State → Prop) (h : PH) (pc : Nat) (lv : List (Option Value)) (st : List Value) : Prop := match X with
  | (p, e, R, s, m, args, below, meth, c, l, D, ad, cA, nh) => ∀ (H : Heap) (locs : List Loc) (ls : Array Slot), va_P D vwCl (WD nh ad cA h) H → va_S (AD 0 ad s.heap.size) s.heap H locs → LV ad ls c.maxLocals lv → W p l e R s m args below meth c H locs kc ks Q (F0 m pc ls (st.map (tr ad)))
def CL (X : CT) (B : Nat) (cc : ByteArray) (nL : Nat) (own : String) (ret : Option FieldType) (fr lo mx sx Ln : Nat) (xs : Nat → Int32) : Prop := match X with
  | (p, e, R, s, m, args, below, meth, c, l, D, ad, cA, nh) => p.tables.exec = Jvm.exec ∧ c.code = cc ∧ c.maxLocals = nL ∧ s.vm.findClass own = some m.cls ∧ (∀ w ∈ BW, w.before args s = true) ∧ meth.sig.returnType = ret ∧ meth.locks = false ∧ va_K D vwCl (TY cA) s ∧ INJ nh ad ∧ (NWM s ∧ STR 0 ad s) ∧ fr ≤ R.frames ∧ lo ≤ R.locals ∧ B ≤ nh ∧ (∀ k, k < nh → s.heap.size ≤ ad k) ∧ mx ≤ R.cells ∧ sx ≤ R.slots ∧ va_X (ad 4000) Ln xs s s.heap ∧ ad 4000 < s.heap.size
section VLR
variable {X : CT} {B : Nat} {cc : ByteArray} {nL : Nat} {own : String} {ret : Option FieldType} {fr lo mx sx Ln kc ks : Nat} {xs : Nat → Int32} {Q : State → Prop} {h h' : PH} {pc : Nat} {lv : List (Option Value)} {st : List Value}
theorem L_iconst (C : CL X B cc nL own ret fr lo mx sx Ln xs) {n : Int} {v : Int32} (d : decode cc pc = .ok (.iconst n, 1)) (hv : Int32.ofInt n = v) (k : VL X kc ks Q h (pc + 1) lv (.int v :: st)) : VL X kc ks Q h pc lv (st) := by
  obtain ⟨p, e, R, s, m, args, below, meth, c, l, D, ad, cA, nh⟩ := X
  obtain ⟨hx, hb, hml, hown, hts, hret, hlocks, hK, hI, hN, hfr, hlo, hB⟩ := C
  intro H locs ls hP hS hl
  exact lv_iconst hx hb d hv (k H locs ls hP hS hl)
theorem L_bipush (C : CL X B cc nL own ret fr lo mx sx Ln xs) {n : Int} {v : Int32} (d : decode cc pc = .ok (.bipush n, 2)) (hv : (Int8.ofInt n).toInt32 = v) (k : VL X kc ks Q h (pc + 2) lv (.int v :: st)) : VL X kc ks Q h pc lv (st) := by
  obtain ⟨p, e, R, s, m, args, below, meth, c, l, D, ad, cA, nh⟩ := X
  obtain ⟨hx, hb, hml, hown, hts, hret, hlocks, hK, hI, hN, hfr, hlo, hB⟩ := C
  intro H locs ls hP hS hl
  exact lv_bipush hx hb d hv (k H locs ls hP hS hl)
theorem L_ldc2 (C : CL X B cc nL own ret fr lo mx sx Ln xs) {i : Nat} {v : Int64} (d : decode cc pc = .ok (.ldc2_w i, 3)) (hc : Jvm.Cond.constantLong own i v ∈ BW) (k : VL X kc ks Q h (pc + 3) lv (.long v :: st)) : VL X kc ks Q h pc lv (st) := by
  obtain ⟨p, e, R, s, m, args, below, meth, c, l, D, ad, cA, nh⟩ := X
  obtain ⟨hx, hb, hml, hown, hts, hret, hlocks, hK, hI, hN, hfr, hlo, hB⟩ := C
  intro H locs ls hP hS hl
  exact lv_ldc2 hx hb hown (hts _ hc) d (k H locs ls hP hS hl)
theorem L_iload (C : CL X B cc nL own ret fr lo mx sx Ln xs) {i : Nat} {x : Int32} (d : decode cc pc = .ok (.iload i, 2)) (hv : lv[i]? = some (some (.int x))) (k : VL X kc ks Q h (pc + 2) lv (.int x :: st)) : VL X kc ks Q h pc lv (st) := by
  obtain ⟨p, e, R, s, m, args, below, meth, c, l, D, ad, cA, nh⟩ := X
  obtain ⟨hx, hb, hml, hown, hts, hret, hlocks, hK, hI, hN, hfr, hlo, hB⟩ := C
  intro H locs ls hP hS hl
  exact lv_iload hx hb d (hl.2.2 _ _ hv) (k H locs ls hP hS hl)
theorem L_aload_n (C : CL X B cc nL own ret fr lo mx sx Ln xs) {j : Fin 4} {x : Nat} (d : decode cc pc = .ok (.aload_n j, 1)) (hv : lv[(j : Nat)]? = some (some (.ref x))) (k : VL X kc ks Q h (pc + 1) lv (.ref x :: st)) : VL X kc ks Q h pc lv (st) := by
  obtain ⟨p, e, R, s, m, args, below, meth, c, l, D, ad, cA, nh⟩ := X
  obtain ⟨hx, hb, hml, hown, hts, hret, hlocks, hK, hI, hN, hfr, hlo, hB⟩ := C
  intro H locs ls hP hS hl
  exact lv_aload_n hx hb d rfl (hl.2.2 _ _ hv) (k H locs ls hP hS hl)
theorem L_istore (C : CL X B cc nL own ret fr lo mx sx Ln xs) {i : Nat} {x : Int32} (d : decode cc pc = .ok (.istore i, 2)) (hn : i < nL) (ho : okst lv i = true) (k : VL X kc ks Q h (pc + 2) (lv.set i (some (.int x))) st) : VL X kc ks Q h pc lv (.int x :: st) := by
  obtain ⟨p, e, R, s, m, args, below, meth, c, l, D, ad, cA, nh⟩ := X
  obtain ⟨hx, hb, hml, hown, hts, hret, hlocks, hK, hI, hN, hfr, hlo, hB⟩ := C
  intro H locs ls hP hS hl
  exact lv_istore hx hb d hl.has (by rw [hml]; exact hn) rfl (fun ls2 h2 => k H locs ls2 hP hS (LV.st1 (v := .int x) ho h2))
theorem L_iinc (C : CL X B cc nL own ret fr lo mx sx Ln xs) {i : Nat} {n : Int} {x v : Int32} (d : decode cc pc = .ok (.iinc i n, 3)) (hx0 : lv[i]? = some (some (.int x))) (hv : x + Int32.ofInt n = v) (hn : i < nL) (ho : okst lv i = true) (k : VL X kc ks Q h (pc + 3) (lv.set i (some (.int v))) st) : VL X kc ks Q h pc lv st := by
  obtain ⟨p, e, R, s, m, args, below, meth, c, l, D, ad, cA, nh⟩ := X
  obtain ⟨hx, hb, hml, hown, hts, hret, hlocks, hK, hI, hN, hfr, hlo, hB⟩ := C
  intro H locs ls hP hS hl
  obtain ⟨kk, hkk⟩ := List.getElem?_of_mem (prs_mem (ad := ad) (q := (i, .int x)).mpr ⟨.int x, hx0, rfl⟩)
  exact lv_iinc hx hb d hl.has hkk hv (by rw [hml]; exact hn) rfl (fun ls2 h2 => k H locs ls2 hP hS (LV.st1 (v := .int v) ho h2))
theorem L_iadd (C : CL X B cc nL own ret fr lo mx sx Ln xs) {x y : Int32} (d : decode cc pc = .ok (.iadd, 1)) (k : VL X kc ks Q h (pc + 1) lv (.int (x + y) :: st)) : VL X kc ks Q h pc lv (.int y :: .int x :: st) := by
  obtain ⟨p, e, R, s, m, args, below, meth, c, l, D, ad, cA, nh⟩ := X
  obtain ⟨hx, hb, hml, hown, hts, hret, hlocks, hK, hI, hN, hfr, hlo, hB⟩ := C
  intro H locs ls hP hS hl
  exact lv_iadd hx hb d (k H locs ls hP hS hl)
theorem L_isub (C : CL X B cc nL own ret fr lo mx sx Ln xs) {x y : Int32} (d : decode cc pc = .ok (.isub, 1)) (k : VL X kc ks Q h (pc + 1) lv (.int (x - y) :: st)) : VL X kc ks Q h pc lv (.int y :: .int x :: st) := by
  obtain ⟨p, e, R, s, m, args, below, meth, c, l, D, ad, cA, nh⟩ := X
  obtain ⟨hx, hb, hml, hown, hts, hret, hlocks, hK, hI, hN, hfr, hlo, hB⟩ := C
  intro H locs ls hP hS hl
  exact lv_isub hx hb d (k H locs ls hP hS hl)
theorem L_iand (C : CL X B cc nL own ret fr lo mx sx Ln xs) {x y : Int32} (d : decode cc pc = .ok (.iand, 1)) (k : VL X kc ks Q h (pc + 1) lv (.int (x &&& y) :: st)) : VL X kc ks Q h pc lv (.int y :: .int x :: st) := by
  obtain ⟨p, e, R, s, m, args, below, meth, c, l, D, ad, cA, nh⟩ := X
  obtain ⟨hx, hb, hml, hown, hts, hret, hlocks, hK, hI, hN, hfr, hlo, hB⟩ := C
  intro H locs ls hP hS hl
  exact lv_iand hx hb d (k H locs ls hP hS hl)
theorem L_land (C : CL X B cc nL own ret fr lo mx sx Ln xs) {x y : Int64} (d : decode cc pc = .ok (.land, 1)) (k : VL X kc ks Q h (pc + 1) lv (.long (x &&& y) :: st)) : VL X kc ks Q h pc lv (.long y :: .long x :: st) := by
  obtain ⟨p, e, R, s, m, args, below, meth, c, l, D, ad, cA, nh⟩ := X
  obtain ⟨hx, hb, hml, hown, hts, hret, hlocks, hK, hI, hN, hfr, hlo, hB⟩ := C
  intro H locs ls hP hS hl
  exact lv_land hx hb d (k H locs ls hP hS hl)
theorem L_lor (C : CL X B cc nL own ret fr lo mx sx Ln xs) {x y : Int64} (d : decode cc pc = .ok (.lor, 1)) (k : VL X kc ks Q h (pc + 1) lv (.long (x ||| y) :: st)) : VL X kc ks Q h pc lv (.long y :: .long x :: st) := by
  obtain ⟨p, e, R, s, m, args, below, meth, c, l, D, ad, cA, nh⟩ := X
  obtain ⟨hx, hb, hml, hown, hts, hret, hlocks, hK, hI, hN, hfr, hlo, hB⟩ := C
  intro H locs ls hP hS hl
  exact lv_lor hx hb d (k H locs ls hP hS hl)
theorem L_lcmp (C : CL X B cc nL own ret fr lo mx sx Ln xs) {x y : Int64} (d : decode cc pc = .ok (.lcmp, 1)) (k : VL X kc ks Q h (pc + 1) lv (.int (lg_cmp x y) :: st)) : VL X kc ks Q h pc lv (.long y :: .long x :: st) := by
  obtain ⟨p, e, R, s, m, args, below, meth, c, l, D, ad, cA, nh⟩ := X
  obtain ⟨hx, hb, hml, hown, hts, hret, hlocks, hK, hI, hN, hfr, hlo, hB⟩ := C
  intro H locs ls hP hS hl
  exact W.lcmp hx hb d (k H locs ls hP hS hl)
theorem L_lshl (C : CL X B cc nL own ret fr lo mx sx Ln xs) {x : Int64} {y : Int32} (d : decode cc pc = .ok (.lshl, 1)) (k : VL X kc ks Q h (pc + 1) lv (.long (x <<< (y.toInt64 &&& 63)) :: st)) : VL X kc ks Q h pc lv (.int y :: .long x :: st) := by
  obtain ⟨p, e, R, s, m, args, below, meth, c, l, D, ad, cA, nh⟩ := X
  obtain ⟨hx, hb, hml, hown, hts, hret, hlocks, hK, hI, hN, hfr, hlo, hB⟩ := C
  intro H locs ls hP hS hl
  exact lv_lshl hx hb d rfl (k H locs ls hP hS hl)
theorem L_i2l (C : CL X B cc nL own ret fr lo mx sx Ln xs) {x : Int32} (d : decode cc pc = .ok (.i2l, 1)) (k : VL X kc ks Q h (pc + 1) lv (.long x.toInt64 :: st)) : VL X kc ks Q h pc lv (.int x :: st) := by
  obtain ⟨p, e, R, s, m, args, below, meth, c, l, D, ad, cA, nh⟩ := X
  obtain ⟨hx, hb, hml, hown, hts, hret, hlocks, hK, hI, hN, hfr, hlo, hB⟩ := C
  intro H locs ls hP hS hl
  exact lv_i2l hx hb d rfl (k H locs ls hP hS hl)
theorem L_if_eq (C : CL X B cc nL own ret fr lo mx sx Ln xs) {x : Int32} {off : Int} {tgt : Nat} (d : decode cc pc = .ok (.ifCond .eq off, 3)) (ht : (pc : Int) + off = (tgt : Int)) (kt : x = 0 → VL X kc ks Q h tgt lv st) (kf : ¬ x = 0 → VL X kc ks Q h (pc + 3) lv st) : VL X kc ks Q h pc lv (.int x :: st) := by
  obtain ⟨p, e, R, s, m, args, below, meth, c, l, D, ad, cA, nh⟩ := X
  obtain ⟨hx, hb, hml, hown, hts, hret, hlocks, hK, hI, hN, hfr, hlo, hB⟩ := C
  intro H locs ls hP hS hl
  exact lv_if_eq hx hb d ht (fun q => kt q H locs ls hP hS hl) (fun q => kf q H locs ls hP hS hl)
theorem L_if_ne (C : CL X B cc nL own ret fr lo mx sx Ln xs) {x : Int32} {off : Int} {tgt : Nat} (d : decode cc pc = .ok (.ifCond .ne off, 3)) (ht : (pc : Int) + off = (tgt : Int)) (kt : ¬ x = 0 → VL X kc ks Q h tgt lv st) (kf : x = 0 → VL X kc ks Q h (pc + 3) lv st) : VL X kc ks Q h pc lv (.int x :: st) := by
  obtain ⟨p, e, R, s, m, args, below, meth, c, l, D, ad, cA, nh⟩ := X
  obtain ⟨hx, hb, hml, hown, hts, hret, hlocks, hK, hI, hN, hfr, hlo, hB⟩ := C
  intro H locs ls hP hS hl
  exact lv_if_ne hx hb d ht (fun q => kt q H locs ls hP hS hl) (fun q => kf q H locs ls hP hS hl)
theorem L_icmp_eq (C : CL X B cc nL own ret fr lo mx sx Ln xs) {x y : Int32} {off : Int} {tgt : Nat} (d : decode cc pc = .ok (.if_icmp .eq off, 3)) (ht : (pc : Int) + off = (tgt : Int)) (kt : x = y → VL X kc ks Q h tgt lv st) (kf : ¬ x = y → VL X kc ks Q h (pc + 3) lv st) : VL X kc ks Q h pc lv (.int y :: .int x :: st) := by
  obtain ⟨p, e, R, s, m, args, below, meth, c, l, D, ad, cA, nh⟩ := X
  obtain ⟨hx, hb, hml, hown, hts, hret, hlocks, hK, hI, hN, hfr, hlo, hB⟩ := C
  intro H locs ls hP hS hl
  exact lv_icmp_eq hx hb d ht (fun q => kt q H locs ls hP hS hl) (fun q => kf q H locs ls hP hS hl)
theorem L_icmp_gt (C : CL X B cc nL own ret fr lo mx sx Ln xs) {x y : Int32} {off : Int} {tgt : Nat} (d : decode cc pc = .ok (.if_icmp .gt off, 3)) (ht : (pc : Int) + off = (tgt : Int)) (kt : y < x → VL X kc ks Q h tgt lv st) (kf : ¬ y < x → VL X kc ks Q h (pc + 3) lv st) : VL X kc ks Q h pc lv (.int y :: .int x :: st) := by
  obtain ⟨p, e, R, s, m, args, below, meth, c, l, D, ad, cA, nh⟩ := X
  obtain ⟨hx, hb, hml, hown, hts, hret, hlocks, hK, hI, hN, hfr, hlo, hB⟩ := C
  intro H locs ls hP hS hl
  exact lv_icmp_gt hx hb d ht (fun q => kt q H locs ls hP hS hl) (fun q => kf q H locs ls hP hS hl)
theorem L_goto (C : CL X B cc nL own ret fr lo mx sx Ln xs) {off : Int} {tgt : Nat} (d : decode cc pc = .ok (.goto off, 3)) (ht : (pc : Int) + off = (tgt : Int)) (k : VL X kc ks Q h tgt lv st) : VL X kc ks Q h pc lv st := by
  obtain ⟨p, e, R, s, m, args, below, meth, c, l, D, ad, cA, nh⟩ := X
  obtain ⟨hx, hb, hml, hown, hts, hret, hlocks, hK, hI, hN, hfr, hlo, hB⟩ := C
  intro H locs ls hP hS hl
  exact lv_goto hx hb d ht (k H locs ls hP hS hl)
theorem L_tsIn (C : CL X B cc nL own ret fr lo mx sx Ln xs) {dflt lo1 hi1 : Int} {offs : Array Int} {len : Nat} {x : Int32} (v : Int32) {off : Int} {tgt : Nat} (d : decode cc pc = .ok (.tableswitch dflt lo1 hi1 offs, len)) (hv : x = v) (h1 : ¬ v.toInt < lo1) (h2 : ¬ hi1 < v.toInt) (ho : offs[(v.toInt - lo1).toNat]? = some off) (ht : (pc : Int) + off = (tgt : Int)) (k : VL X kc ks Q h tgt lv st) : VL X kc ks Q h pc lv (.int x :: st) := by
  obtain ⟨p, e, R, s, m, args, below, meth, c, l, D, ad, cA, nh⟩ := X
  obtain ⟨hx, hb, hml, hown, hts, hret, hlocks, hK, hI, hN, hfr, hlo, hB⟩ := C
  intro H locs ls hP hS hl
  subst hv
  exact lv_tableIn hx hb d h1 h2 ho ht (k H locs ls hP hS hl)
theorem L_callI (C : CL X B cc nL own ret fr lo mx sx Ln xs) {y : MethodName} {bytes : ByteArray} {maxL : Nat} {rt : Option FieldType} {fr2 lo2 B2 : Nat} {i n k0 ci : Nat} {As rest : List Value} {r : Int32} (d : decode cc pc = .ok (.invokevirtual i, 3)) (hl0 : Cond.methodLink own i y ∈ BW) (mk : MK y bytes maxL rt) (ok : OK B k0 ci) (hci : (vwCl[ci]?).map (fun q => q.1) = some y.cls) (hM : MI (xE X) B2 y bytes maxL rt fr2 lo2 (.ref k0 :: As) h r h') (hn : As.length = n) (hd : (parseMethodDescriptor y.desc).map (fun d => d.parameters.length) = some n) (hB2 : B2 ≤ B) (hf : fr2 + 1 ≤ fr) (hlo2 : 8 + (maxL + 11) + lo2 ≤ lo) (hst : st = As.reverse ++ .ref k0 :: rest) (hc : sumcat rest ≤ 8) (hkc : kc ≤ mx) (hks : ks ≤ sx) (k : VL X kc ks Q h' (pc + 3) lv (.int r :: rest)) : VL X kc ks Q h pc lv st := by
  obtain ⟨p, e, R, s, m, args, below, meth, c, l, D, ad, cA, nh⟩ := X
  obtain ⟨hx, hb, hml, hown, hts, hret, hlocks, hK, hI, hN, hfr, hlo, hB, hge, hmx, hsx, hX, hXl⟩ := C
  intro H locs ls hP hS hl
  have hsub : ∀ q, AD nh ad H.size q → AD 0 ad s.heap.size q := fun q hq => hq.elim (fun ⟨a, a1, a2⟩ => Or.inr (by rw [a2]; exact hge a a1)) (fun z => Or.inr (Nat.le_trans hS.1 z))
  obtain ⟨m1, m2, m3, m4, m5⟩ := mk
  obtain ⟨o1, fl, o2⟩ := ok
  have he := WD_get (nh := nh) (ad := ad) (cA := cA) (h := h) (Nat.lt_of_lt_of_le o1 hB)
  rw [o2] at he
  cases hq : vwCl[ci]? with
  | none => rw [hq] at hci; cases hci
  | some q =>
    rw [hq] at hci
    have hcl : q.1 = y.cls := Option.some.inj hci
    subst hst
    have hG : GoodIn BW (wsV own i y.cls y (Cond.code y bytes maxL rt :: BW)) := by
      intro w hw
      rcases List.mem_append.mp hw with hw | hw
      · have hm : w ∈ BW := by
          simp only [List.mem_cons, List.not_mem_nil, or_false] at hw
          rcases hw with rfl | rfl | rfl | rfl
          · exact hl0
          · exact m1
          · exact m2
          · exact m3
        exact bw_in w hm
      · exact bw_cons m4 w hw
    refine va_calli (va_runV (C := y.cls) (As := As.map (tr ad)) (rest := rest.map (tr ad)) (b := ad k0) ⟨hx, hb, hml, hown, hts⟩ (hM (Nat.le_trans hB2 hB) H.size) (cwV n hts hG rfl rfl rfl ⟨rfl, m5.1, m5.2, hd⟩ ⟨Nat.le_trans hf hfr, Nat.le_trans hlo2 hlo⟩) ⟨WP_blind, by have := va_recv hK hP hq he; rwa [hcl] at this, fun U hU hW => ⟨rfl, by rw [hU], by rw [hU]; exact hP, va_K.moved hW.alike hK, hI, hN.1.warm hW, STR_grow hN.2 (fun _ _ => rfl) hS (fun _ z => z) hsub hU hW⟩⟩ rfl (by rw [List.length_map]; exact hn) (by show ls.size = nL; rw [hl.1, hml]) (by show List.map (tr ad) (As.reverse ++ .ref k0 :: rest) = (As.map (tr ad)).reverse ++ .ref (ad k0) :: rest.map (tr ad); rw [List.map_append, List.map_reverse]; rfl) (lv_room (by rw [sumcat_tr]; exact hc)) d ⟨Nat.le_trans hkc hmx, Nat.le_trans hks hsx⟩) hS (fun q _ z => hsub q z) hsub (fun r1 u t H1 locs1 ht hvm hw hB hz hk hS1 => ?_)
    subst hw
    obtain ⟨hP1, hK1⟩ := hB
    rw [ht] at hP1
    exact k H1 locs1 ls hP1 hS1 hl
theorem L_callL (C : CL X B cc nL own ret fr lo mx sx Ln xs) {y : MethodName} {bytes : ByteArray} {maxL : Nat} {rt : Option FieldType} {fr2 lo2 B2 : Nat} {i n k0 ci : Nat} {As rest : List Value} {r : Int64} (d : decode cc pc = .ok (.invokevirtual i, 3)) (hl0 : Cond.methodLink own i y ∈ BW) (mk : MK y bytes maxL rt) (ok : OK B k0 ci) (hci : (vwCl[ci]?).map (fun q => q.1) = some y.cls) (hM : ML (xE X) B2 y bytes maxL rt fr2 lo2 (.ref k0 :: As) h r h') (hn : As.length = n) (hd : (parseMethodDescriptor y.desc).map (fun d => d.parameters.length) = some n) (hB2 : B2 ≤ B) (hf : fr2 + 1 ≤ fr) (hlo2 : 8 + (maxL + 11) + lo2 ≤ lo) (hst : st = As.reverse ++ .ref k0 :: rest) (hc : sumcat rest ≤ 8) (hkc : kc ≤ mx) (hks : ks ≤ sx) (k : VL X kc ks Q h' (pc + 3) lv (.long r :: rest)) : VL X kc ks Q h pc lv st := by
  obtain ⟨p, e, R, s, m, args, below, meth, c, l, D, ad, cA, nh⟩ := X
  obtain ⟨hx, hb, hml, hown, hts, hret, hlocks, hK, hI, hN, hfr, hlo, hB, hge, hmx, hsx, hX, hXl⟩ := C
  intro H locs ls hP hS hl
  have hsub : ∀ q, AD nh ad H.size q → AD 0 ad s.heap.size q := fun q hq => hq.elim (fun ⟨a, a1, a2⟩ => Or.inr (by rw [a2]; exact hge a a1)) (fun z => Or.inr (Nat.le_trans hS.1 z))
  obtain ⟨m1, m2, m3, m4, m5⟩ := mk
  obtain ⟨o1, fl, o2⟩ := ok
  have he := WD_get (nh := nh) (ad := ad) (cA := cA) (h := h) (Nat.lt_of_lt_of_le o1 hB)
  rw [o2] at he
  cases hq : vwCl[ci]? with
  | none => rw [hq] at hci; cases hci
  | some q =>
    rw [hq] at hci
    have hcl : q.1 = y.cls := Option.some.inj hci
    subst hst
    have hG : GoodIn BW (wsV own i y.cls y (Cond.code y bytes maxL rt :: BW)) := by
      intro w hw
      rcases List.mem_append.mp hw with hw | hw
      · have hm : w ∈ BW := by
          simp only [List.mem_cons, List.not_mem_nil, or_false] at hw
          rcases hw with rfl | rfl | rfl | rfl
          · exact hl0
          · exact m1
          · exact m2
          · exact m3
        exact bw_in w hm
      · exact bw_cons m4 w hw
    refine va_calll (va_runV (C := y.cls) (As := As.map (tr ad)) (rest := rest.map (tr ad)) (b := ad k0) ⟨hx, hb, hml, hown, hts⟩ (hM (Nat.le_trans hB2 hB) H.size) (cwV n hts hG rfl rfl rfl ⟨rfl, m5.1, m5.2, hd⟩ ⟨Nat.le_trans hf hfr, Nat.le_trans hlo2 hlo⟩) ⟨WP_blind, by have := va_recv hK hP hq he; rwa [hcl] at this, fun U hU hW => ⟨rfl, by rw [hU], by rw [hU]; exact hP, va_K.moved hW.alike hK, hI, hN.1.warm hW, STR_grow hN.2 (fun _ _ => rfl) hS (fun _ z => z) hsub hU hW⟩⟩ rfl (by rw [List.length_map]; exact hn) (by show ls.size = nL; rw [hl.1, hml]) (by show List.map (tr ad) (As.reverse ++ .ref k0 :: rest) = (As.map (tr ad)).reverse ++ .ref (ad k0) :: rest.map (tr ad); rw [List.map_append, List.map_reverse]; rfl) (lv_room (by rw [sumcat_tr]; exact hc)) d ⟨Nat.le_trans hkc hmx, Nat.le_trans hks hsx⟩) hS (fun q _ z => hsub q z) hsub (fun r1 u t H1 locs1 ht hvm hw hB hz hk hS1 => ?_)
    subst hw
    obtain ⟨hP1, hK1⟩ := hB
    rw [ht] at hP1
    exact k H1 locs1 ls hP1 hS1 hl
theorem L_iaddE (C : CL X B cc nL own ret fr lo mx sx Ln xs) {x y v : Int32} (d : decode cc pc = .ok (.iadd, 1)) (hv : x + y = v) (k : VL X kc ks Q h (pc + 1) lv (.int v :: st)) : VL X kc ks Q h pc lv (.int y :: .int x :: st) := L_iadd C d (by rw [hv]; exact k)
theorem L_sld (C : CL X B cc nL own ret fr lo mx sx Ln xs) {j : Nat} (d : decode cc pc = .ok (.iaload, 1)) (hj : j < Ln) (hL : Ln < 2 ^ 31) (k : VL X kc ks Q h (pc + 1) lv (.int (xs j) :: st)) : VL X kc ks Q h pc lv (.int (nI j) :: .ref 4000 :: st) := by
  obtain ⟨p, e, R, s, m, args, below, meth, c, l, D, ad, cA, nh⟩ := X
  obtain ⟨hx, hb, hml, hown, hts, hret, hlocks, hK, hI, hN, hfr, hlo, hB, hge, hmx, hsx, hX, hXl⟩ := C
  intro H locs ls hP hS hl
  have := k H locs ls hP hS hl
  refine va_sld hx hb hX hXl (fun z => z.elim (fun ⟨a, a1, _⟩ => absurd a1 (Nat.not_lt_zero a)) (fun z => by omega)) hS (i := nI j) (vp_in_nI hj hL) d ?_
  rw [nI_clamp (by omega)]
  exact this
theorem L_slen (C : CL X B cc nL own ret fr lo mx sx Ln xs) (d : decode cc pc = .ok (.arraylength, 1)) (k : VL X kc ks Q h (pc + 1) lv (.int (nI Ln) :: st)) : VL X kc ks Q h pc lv (.ref 4000 :: st) := by
  obtain ⟨p, e, R, s, m, args, below, meth, c, l, D, ad, cA, nh⟩ := X
  obtain ⟨hx, hb, hml, hown, hts, hret, hlocks, hK, hI, hN, hfr, hlo, hB, hge, hmx, hsx, hX, hXl⟩ := C
  intro H locs ls hP hS hl
  exact va_slen hx hb hX hXl (fun z => z.elim (fun ⟨a, a1, _⟩ => absurd a1 (Nat.not_lt_zero a)) (fun z => by omega)) hS d (k H locs ls hP hS hl)
theorem L_lald (C : CL X B cc nL own ret fr lo mx sx Ln xs) {i : Int32} {k0 n : Nat} (d : decode cc pc = .ok (.laload, 1)) (ak : AK B k0 3 n 0) (hi : inb i n = true) (k : VL X kc ks Q h (pc + 1) lv (.long (h.2 k0 i.toNatClampNeg) :: st)) : VL X kc ks Q h pc lv (.int i :: .ref k0 :: st) := by
  obtain ⟨p, e, R, s, m, args, below, meth, c, l, D, ad, cA, nh⟩ := X
  obtain ⟨hx, hb, hml, hown, hts, hret, hlocks, hK, hI, hN, hfr, hlo, hB, hge⟩ := C
  intro H locs ls hP hS hl
  have he := WD_get (nh := nh) (ad := ad) (cA := cA) (h := h) (Nat.lt_of_lt_of_le ak.1 hB)
  rw [ak.2] at he
  exact va_lald hx hb hK hP k0 3 he rfl (inb_in hi) d (k H locs ls hP hS hl)
theorem L_widen {kc' ks' : Nat} (h1 : kc ≤ kc') (h2 : ks ≤ ks') (k : VL X kc' ks' Q h pc lv st) : VL X kc ks Q h pc lv st := by
  obtain ⟨p, e, R, s, m, args, below, meth, c, l, D, ad, cA, nh⟩ := X
  intro H locs ls hP hS hl
  exact W.widen h1 h2 (k H locs ls hP hS hl)
theorem L_weak {lv' : List (Option Value)} (hl : lvle lv' lv) (k : VL X kc ks Q h pc lv' st) : VL X kc ks Q h pc lv st := by
  obtain ⟨p, e, R, s, m, args, below, meth, c, l, D, ad, cA, nh⟩ := X
  intro H locs ls hP hS hl'
  exact k H locs ls hP hS (hl'.weak hl)
end VLR
