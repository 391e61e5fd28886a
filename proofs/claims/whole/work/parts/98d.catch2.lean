/-! OldLiftLaw.look outside 0 to 5 -/
abbrev hhL : List (Nat × Nat × Nat × Nat) := [(0, 9, 12, 13)]
def PB (b sz : Nat) (U : State) : Prop := U.heap.size = sz ∧ (∃ cell : Cell, U.heap[b]? = some cell ∧ cell.vm.isStatics = false ∧ U.vm.findClass RX11 = some cell.cls) ∧ OWN U
theorem PB_blind {b sz : Nat} {av : List Value} : FrameBlind (va_Pc av (PB b sz)) := fun a U g mk q => by
  obtain ⟨q0, q1, q2, q3⟩ := q
  exact ⟨q0, q1, q2, q3.blind⟩
set_option maxHeartbeats 1000000 in
theorem B_look (l : Launch) (hfl : l.stackTraces = false) {x : Int32} (hx0 : wth x 0 5 = false) (b d sz : Nat) : Met l yL_look (Cond.codeWith yL_look cL_look 4 (some .int) hhL :: BW) (RMT 10 300) (va_Pc [.ref b, .int x, .ref d] (PB b sz)) (va_Qi (fun r (_ : Unit) => r = 1) (fun _ _ => True) (fun q => sz ≤ q)) 1 6 (fun q => sz ≤ q) := by
  refine va_MetW (cc := cL_look) (maxL := 4) (ret := some .int) (hh := hhL) (by decide) rfl ?_
  intro p e s m args below meth c s₁ B hml hv
  obtain ⟨rfl, hsz, ⟨cell, hc1, hc2, hc3⟩, hO⟩ := hv
  subst hsz
  have hts := atoms_spec (ws := Cond.codeWith yL_look cL_look 4 (some .int) hhL :: BW) B.pre
  have hbw : ∀ w ∈ BW, w.before ([.ref b, .int x, .ref d] : List Value).toArray s = true := fun w hw => hts w (List.mem_cons_of_mem _ hw)
  have X₀ := Stand.of_body B
  obtain ⟨m9, meth9, c9, hn9, hm9, hcd9, -, -, htab, -⟩ := Cond.codeWith_spec (hts _ List.mem_cons_self)
  cases B.named.symm.trans hn9
  cases B.method.symm.trans hm9
  cases X₀.code.symm.trans hcd9
  obtain ⟨x1, hsplit, hx1⟩ : ∃ x1 : ExceptionTableEntry, c.exceptionTable.toList = [] ++ x1 :: [] ∧ (x1.startPc, x1.endPc, x1.handlerPc, x1.catchType) = (0, 9, 12, 13) := by
    cases hl : c.exceptionTable.toList with
    | nil => rw [hl] at htab; cases htab
    | cons a r =>
      rw [hl] at htab
      simp only [List.map_cons, List.cons.injEq, List.map_eq_nil_iff] at htab
      exact ⟨a, by rw [htab.2]; rfl, htab.1⟩
  simp only [Prod.mk.injEq] at hx1
  obtain ⟨xa, xb, xc, xd⟩ := hx1
  have hown : s.vm.findClass RL = some m.cls := findClass_of_methodNamed B.named
  have hexec := B.exec
  have hb := B.bytes
  have hret := B.returns
  have hlocks : meth.locks = false := B.notSynchronized
  have hl := lv_entry ([.ref b, .int x, .ref d] : List Value) (n := 4) (Nat.le_of_ble_eq_true rfl)
  rw [lg_entry_eq]
  generalize (lg_sl ([.ref b, .int x, .ref d] : List Value) ++ List.replicate (4 - (lg_sl ([.ref b, .int x, .ref d] : List Value)).length) Slot.unset).toArray = ls at hl ⊢
  refine lv_aload_n hexec hb dL_look_0 rfl (lv_at hl 2 rfl) ?_
  refine lv_iconst (v := 0) hexec hb dL_look_1 rfl ?_
  refine lv_aload_n hexec hb dL_look_2 rfl (lv_at hl 0 rfl) ?_
  refine lv_iload_n hexec hb dL_look_3 rfl (lv_at hl 1 rfl) ?_
  intro T hT X
  obtain ⟨m1, m2, m3, m4, m5⟩ := mk_X11_look
  have hbwU : ∀ U : State, s.WarmedH U.vm → ∀ w ∈ BW, w.before ([.ref b, .int x] : List Value).toArray U = true := fun U hW w hw => word_at hW (good_of_word (bw_good hw)) (hbw w hw)
  obtain ⟨v, st, t2, U2, e1, hW1, ⟨z, ce, z1, z2, z3, z4, z5⟩, e2, X2, stp⟩ := cl_thrown (C := RX11) (bytes := cX11_look) (maxL := 2) (ret := some .int) X hexec hown (hbw _ lm_L_7) (hbw _ m1) (hbw _ m2) (hbw _ m4) (hbw _ m3) ⟨by decide, by decide⟩ (cellB := cell) (by rw [hT]; exact hc1) hc2 hc3
    (g := F0 m 4 ls [.int x, .ref b, .int 0, .ref d]) rfl (by rw [hml]; exact hl.1) (argsL := [.int x]) (rest := [.int 0, .ref d]) (fun sig h => by have q := pd_X11_look; rw [h] at q; exact (Option.some.inj q).symm) rfl (wd := 8) (Nat.le_of_ble_eq_true rfl) (by rw [hb]; exact dL_look_4)
    (kc := 1) (ks := 6) (T_X11_look l hfl hx0 b) (Nat.le_of_ble_eq_true rfl) (Nat.le_of_ble_eq_true rfl) (Nat.le_of_ble_eq_true rfl) (Nat.le_of_ble_eq_true rfl)
    (fun U hW => atoms_intro fun w h => by
      rcases List.mem_cons.mp h with h | h
      · rw [h]; exact hbwU U hW _ m4
      · exact hbwU U hW w h)
    (fun U hU hW => ⟨rfl, hO.move hW (fun q cell hq => by rw [hU, hT]; exact hq)⟩)
    (fun a st o t h => by obtain ⟨z, ce, h1, h2, h3⟩ := h; exact ⟨z, h1, h2⟩)
  cases z1
  obtain ⟨g1, g2⟩ := same_new z2.2.2
  have p1 : s.heap.size ≤ U2.heap.size := by rw [e2, ← hT, ← e1]; exact g1
  have p2 : ∀ (q : Nat) (cell : Cell), s.heap[q]? = some cell → U2.heap[q]? = some cell := fun q cell hq => by
    rw [e2]
    exact g2 q cell (by rw [e1, hT]; exact hq)
  have p4' : s.vm.findClass RNS = some ce.cls := by rw [← hW1.alike.findClass]; exact z5.cls
  have p6' : s.vm.assignable ce.cls ce.cls = true := by rw [← hW1.alike.assignable]; exact z5.self
  obtain ⟨vm', X3, st2⟩ := ct_here X2 (g := F0 m 4 ls [.int 0, .ref d]) (own := RL) (name := RNS) hown (x1 := x1) hsplit rfl (by simp [covers, xa, xb]) (by rw [xd]; decide) (by rw [xd]; exact hbw _ ow_cat) (v := v) (ce := ce) (by rw [e2]; exact z4) z5.vm p4' p6'
  have key : W p l e (RMT 10 300) s m ([.ref b, .int x, .ref d] : List Value).toArray below meth c U2.heap [] 1 6 (MQ below (va_Qi (fun r (_ : Unit) => r = 1) (fun _ _ => True) (fun q => s.heap.size ≤ q)) ([.ref b, .int x, .ref d] : List Value).toArray s 1 6 (fun q => s.heap.size ≤ q)) (F0 m 12 ls [.ref v]) := by
    refine lv_astore_n hexec hb dL_look_12 rfl hl (by decide) rfl (fun ls2 hl2 => ?_)
    refine lv_iconst (v := 1) hexec hb dL_look_13 rfl ?_
    refine W.iret hexec hb hret (fun t ht hW => ⟨⟨1, (), rfl, rfl, trivial⟩, ?_, fun q hq _ => ?_⟩) (fun q hq => by cases hq) dL_look_14
    · rw [ht]; exact p1
    · rw [ht]
      cases hz : s.heap[q]? with
      | none => exact absurd hz (by simp; exact hq)
      | some cz => exact p2 q cz hz
  obtain ⟨t, k1, k2⟩ := key (U2.setVm vm') rfl X3
  refine ⟨t, stp t (st2 t ?_), k2⟩
  rw [xc]
  exact k1
