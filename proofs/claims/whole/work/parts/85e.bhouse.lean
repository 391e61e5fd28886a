theorem STR_grow {n0 n : Nat} {ad0 ad : Nat → Nat} {A : Nat → Prop} {s U : State} {H : Heap} {locs : List Loc} (h : STR n0 ad0 s) (ha : ∀ k, 1000 ≤ k → ad k = ad0 k) (hS : va_S A s.heap H locs) (hA : ∀ q, A q → AD n0 ad0 s.heap.size q) (hn : ∀ q, AD n ad H.size q → AD n0 ad0 s.heap.size q) (hU : U.heap = H) (hW : s.WarmedH U.vm) : STR n ad U := by
  obtain ⟨h1, h2, h3, h4, h5⟩ := h
  subst hU
  have e1 : (fun i => ad (1000 + i)) = fun i => ad0 (1000 + i) := funext fun i => ha _ (by omega)
  have e2 : (fun i => ad (2000 + i)) = fun i => ad0 (2000 + i) := funext fun i => ha _ (by omega)
  have hq : ∀ a : Nat, a < s.heap.size → ¬ AD n0 ad0 s.heap.size a → U.heap[a]? = s.heap[a]? := fun a a1 a2 => hS.2.1 a a1 (fun z => a2 (hA a z))
  unfold STR
  rw [e1, e2, ha 1000 (by omega), ha 1001 (by omega), ha 3000 (by omega)]
  refine ⟨((h1.moved hW.alike).kept hq).narrow hn, h2.warm hW, h3.warm hW, ((h4.moved hW.alike).kept hq).narrow hn, ?_⟩
  rcases h5 with h5 | h5
  · exact Or.inl (((h5.moved hW.alike).kept hq).narrow hn)
  · exact Or.inr (((h5.moved hW.alike).kept hq).narrow hn)
/-- what OldLift's constructor asks -/
abbrev sX : (Nat → Nat) → State → Prop := fun ad U => STR 1 ad U ∧ noX ad U
theorem exR {X : CT} (h : exB X sX) : exB X noX := by
  obtain ⟨p, e, R, s, m, args, below, meth, c, l, D, ad0, cA, nh⟩ := X
  exact h.2
section VBH
variable {X : CT} {Q : State → Prop} {ks : List Nat} {g : List (Nat × Nat)} {h : PH} {mc ms pc : Nat} {lv : List (Option Value)} {st : List Value} {cc : ByteArray} {nL : Nat} {own : String} {fr lo mx sx : Nat}
theorem WB_WD {D : va_G} {n : Nat} {ad : Nat → Nat} {cA : Nat → ClassId} {H : Heap} (hk : ∀ k, k < n → k ∈ ks) (hg : fullB n g = true) (hP : va_P D vwCl (WB ks ad cA g h) H) : va_P D vwCl (WD n ad cA h) H := by
  intro i q hi
  have hl : i < n := by
    have := (List.getElem?_eq_some_iff.mp hi).1
    rwa [WD_len] at this
  rw [WD_get hl] at hi
  cases hi
  rw [← cellB_full hg hl]
  exact PBa hP (hk i hl)
theorem WD_WB {D : va_G} {n : Nat} {ad : Nat → Nat} {cA : Nat → ClassId} {H : Heap} (hk : ∀ k, k ∈ ks → k < n) (hg : fullB n g = true) (hP : va_P D vwCl (WD n ad cA h) H) : va_P D vwCl (WB ks ad cA g h) H := PBo (fun k mk => by
  rw [cellB_full hg (hk k mk)]
  exact hP k _ (WD_get (hk k mk)))
theorem B_house (C : CB X cc nL RX11 fr lo mx sx) (hstr0 : exB X sX) {i : Nat} (d : decode cc pc = .ok (.invokevirtual i, 3)) (hl0 : Cond.methodLink RX11 i yX11_startHouse ∈ BW) {N : Nat} {x : Int32} {h' : PH} (hyp : F_X11_startHouse N x h = some h') (hf : 4 ≤ fr) (hlo2 : 85 ≤ lo) (hk : ∀ k, k ∈ ks ↔ k < 103) (hg : fullB 103 g = true) (hc : sumcat st ≤ 8) (hmc : mc ≤ mx) (hms : ms ≤ sx) (k : VB X [0] Q ks g h' mc ms (pc + 3) lv st) : VB X [0] Q ks g h mc ms pc lv (.int x :: .ref 0 :: st) := by
  obtain ⟨p, e, R, s, m, args, below, meth, c, l, D, ad0, cA, nh⟩ := X
  obtain ⟨hx, hb, hml, hown, hts, hK, hN, hfr, hlo, hmx, hsx⟩ := C
  intro ad H locs ls hB hP hS hl
  have hstr : STR 1 ad0 s := hstr0.1
  obtain ⟨m1, m2, m3, m4, m5⟩ := mk_X11_startHouse
  have hM := M_X11_startHouse (l, D, ad, cA, 103) hyp (Nat.le_refl _) H.size
  have hP0 : va_P D vwCl (WD 103 ad cA h) H := WB_WD (fun k z => (hk k).mpr z) hg hP
  have hI : INJ 103 ad := fun i j hi hj z => hB.2.1 i j ((hk i).mpr hi) ((hk j).mpr hj) z
  have he := WD_get (nh := 103) (ad := ad) (cA := cA) (h := h) (show 0 < 103 by omega)
  rw [sh_0] at he
  have hsub : ∀ q, AD 103 ad H.size q → AD 1 ad0 s.heap.size q := by
    intro q hq
    rcases hq with ⟨a, a1, a2⟩ | hq
    · rcases hB.2.2.2.1 a ((hk a).mpr a1) with z | z
      · exact Or.inl ⟨a, by simp at z; omega, by rw [a2]; exact hB.2.2.1 a (Or.inl z)⟩
      · exact Or.inr (by rw [a2]; exact z)
    · exact Or.inr (Nat.le_trans hS.1 hq)
  have hAB : ∀ q, ADB [0] ad0 s.heap.size q → AD 1 ad0 s.heap.size q := fun q hq => by
    rcases hq with ⟨a, a1, a2⟩ | hq
    · simp at a1; exact Or.inl ⟨a, by omega, a2⟩
    · exact Or.inr hq
  have hBA : ∀ q, AD 1 ad0 s.heap.size q → ADB [0] ad0 s.heap.size q := fun q hq => by
    rcases hq with ⟨a, a1, a2⟩ | hq
    · exact Or.inl ⟨a, by simp; omega, a2⟩
    · exact Or.inr hq
  have hG : GoodIn BW (wsV RX11 i yX11_startHouse.cls yX11_startHouse (Cond.code yX11_startHouse cX11_startHouse 2 none :: BW)) := by
    intro w hw
    rcases List.mem_append.mp hw with hw | hw
    · have hm : w ∈ BW := by
        simp only [List.mem_cons, List.not_mem_nil, or_false] at hw
        rcases hw with rfl | rfl | rfl | rfl
        · exact hl0
        · exact m1
        · exact m2
        · exact m3
      exact bw_in w hm
    · exact bw_cons m4 w hw
  refine va_callv (va_runV (C := yX11_startHouse.cls) (As := [.int x]) (rest := st.map (tr ad)) (b := ad 0) ⟨hx, hb, hml, hown, hts⟩ hM (cwV 1 hts hG rfl rfl rfl ⟨rfl, m5.1, m5.2, pd_X11_startHouse⟩ ⟨Nat.le_trans hf hfr, Nat.le_trans hlo2 hlo⟩) ⟨WP_blind, va_recv hK hP0 rfl he, fun U hU hW => ⟨rfl, by rw [hU], by rw [hU]; exact hP0, va_K.moved hW.alike hK, hI, hN.warm hW, STR_grow hstr (fun k hk1 => hB.2.2.1 k (Or.inr (fun z => by have := (hk k).mp z; omega))) hS hAB hsub hU hW⟩⟩ rfl rfl (by show ls.size = nL; rw [hl.1, hml]) rfl (lv_room (by rw [sumcat_tr]; exact hc)) d ⟨by omega, by omega⟩) hS (fun q _ z => hBA q (hsub q z)) (fun q z => hBA q (hsub q z)) (fun u t H1 locs1 ht hvm hw hBt hz hk1 hS1 => ?_)
  obtain ⟨hP1, hK1⟩ := hBt
  rw [ht] at hP1
  exact k ad H1 locs1 ls hB (WD_WB (fun k z => (hk k).mp z) hg hP1) hS1 hl
end VBH
