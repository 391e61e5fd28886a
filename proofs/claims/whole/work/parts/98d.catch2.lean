/-! OldLiftLaw.look outside 0 to 5 -/
abbrev hhL : List (Nat × Nat × Nat × Nat) := [(0, 9, 12, 13)]
def PB (b sz : Nat) (U : State) : Prop := U.heap.size = sz ∧ (∃ cell : Cell, U.heap[b]? = some cell ∧ cell.vm.isStatics = false ∧ U.vm.findClass RX11 = some cell.cls) ∧ OWN U
theorem PB_blind {b sz : Nat} {av : List Value} : FrameBlind (va_Pc av (PB b sz)) := fun a U g mk q => by
  obtain ⟨q0, q1, q2, q3⟩ := q
  exact ⟨q0, q1, q2, q3.blind⟩
set_option maxHeartbeats 1000000 in
theorem B_look (l : Launch) (hfl : l.stackTraces = false) {x : Int32} (hx0 : wth x 0 5 = false) (b d sz : Nat) : Met l yL_look (Cond.codeWith yL_look cL_look 4 (some .int) hhL :: BW) (RMT 10 300) (va_Pc [.ref b, .int x, .ref d] (PB b sz)) (va_Qi (fun r (_ : Unit) => r = 1) (fun _ _ => True) (fun q => sz ≤ q)) 1 6 (fun q => sz ≤ q) := by
  refine va_MetW (cc := cL_look) (maxL := 4) (ret := some .int) (hh := hhL) (by decide) rfl ?_
  intro p e s m args below meth c s₁ B hml hv
  obtain ⟨rfl, hsz, ⟨cell, hc1, hc2, hc3⟩, hO⟩ := hv
  subst hsz
  have hts := atoms_spec (ws := Cond.codeWith yL_look cL_look 4 (some .int) hhL :: BW) B.pre
  have hbw : ∀ w ∈ BW, w.before ([.ref b, .int x, .ref d] : List Value).toArray s = true := fun w hw => hts w (List.mem_cons_of_mem _ hw)
  have X₀ := Stand.of_body B
  obtain ⟨m9, meth9, c9, hn9, hm9, hcd9, -, -, htab, -⟩ := Cond.codeWith_spec (hts _ List.mem_cons_self)
  cases B.named.symm.trans hn9
  cases B.method.symm.trans hm9
  cases X₀.code.symm.trans hcd9
  obtain ⟨x1, hsplit, hx1⟩ : ∃ x1 : ExceptionTableEntry, c.exceptionTable.toList = [] ++ x1 :: [] ∧ (x1.startPc, x1.endPc, x1.handlerPc, x1.catchType) = (0, 9, 12, 13) := by
    cases hl : c.exceptionTable.toList with
    | nil => rw [hl] at htab; cases htab
    | cons a r =>
      rw [hl] at htab
      simp only [List.map_cons, List.cons.injEq, List.map_eq_nil_iff] at htab
      exact ⟨a, by rw [htab.2]; rfl, htab.1⟩
  simp only [Prod.mk.injEq] at hx1
  obtain ⟨xa, xb, xc, xd⟩ := hx1
  have hown : s.vm.findClass RL = some m.cls := findClass_of_methodNamed B.named
  have hexec := B.exec
  have hb := B.bytes
  have hret := B.returns
  have hlocks : meth.locks = false := B.notSynchronized
  have hl := lv_entry ([.ref b, .int x, .ref d] : List Value) (n := 4) (Nat.le_of_ble_eq_true rfl)
  rw [lg_entry_eq]
  generalize (lg_sl ([.ref b, .int x, .ref d] : List Value) ++ List.replicate (4 - (lg_sl ([.ref b, .int x, .ref d] : List Value)).length) Slot.unset).toArray = ls at hl ⊢
  refine lv_aload_n hexec hb dL_look_0 rfl (lv_at hl 2 rfl) ?_
  refine lv_iconst (v := 0) hexec hb dL_look_1 rfl ?_
  refine lv_aload_n hexec hb dL_look_2 rfl (lv_at hl 0 rfl) ?_
  refine lv_iload_n hexec hb dL_look_3 rfl (lv_at hl 1 rfl) ?_
  intro T hT X
  obtain ⟨m1, m2, m3, m4, m5⟩ := mk_X11_look
  have hOT : ∀ vm₁, s.WarmedH vm₁ → OWN (T.setVm vm₁) := fun vm₁ hW => hO.move (U := T.setVm vm₁) hW (fun q cell hq => by show T.heap[q]? = _; rw [hT]; exact hq)
  obtain ⟨v, vm₁, B2, hW1, X2, ⟨p1, p2, ⟨ce, p3, p4, p5, p6⟩, p7, p8, p9⟩, st⟩ := cl_thrown (C := RX11) (bytes := cX11_look) (maxL := 2) (ret := some .int) X hexec hown (hbw _ lm_L_7) (hbw _ m1) (hbw _ m2) (hbw _ m4) ⟨by decide, by decide⟩ (backT_look (R := RMT 10 300) l hfl hx0 b hbw (by decide) (by decide)) (cellB := cell) (by rw [hT]; exact hc1) hc2 hc3
    (g := F0 m 4 ls [.int x, .ref b, .int 0, .ref d]) rfl (by rw [hml]; exact hl.1) (argsL := [.int x]) (rest := [.int 0, .ref d]) (fun sig h => by have q := pd_X11_look; rw [h] at q; exact (Option.some.inj q).symm) rfl (Nat.le_of_ble_eq_true rfl) (by rw [hb]; exact dL_look_4) (fun vm₁ hW => ⟨Nat.le_refl _, Nat.le_refl _, rfl, hOT vm₁ hW⟩)
  obtain ⟨U2, l2, c2, s2⟩ := B2
  dsimp only [Pt.U, Pt.locs, Pt.cells, Pt.slots] at X2 p1 p2 p3 p4 p5 p6 p7 p8 p9 st
  subst p7; subst p8; subst p9
  have hal : s.vm.Alike vm₁ := hW1.alike
  have p4' : s.vm.findClass RNS = some ce.cls := by rw [← hal.findClass]; exact p4
  have p6' : s.vm.assignable ce.cls ce.cls = true := by rw [← hal.assignable]; exact p6
  obtain ⟨vm', X3, st2⟩ := X2.caughtLink v (g := F0 m 4 ls [.int 0, .ref d]) rfl (own := RL) (name := RNS) hown [] x1 [] hsplit (fun y hy => by cases hy) (by simp [covers, xa, xb]) (by rw [xd]; decide) (by rw [xd]; exact hbw _ ow_cat) p4' p3 (by rw [p5]; rfl) p6'
  have key : W p l e (RMT 10 300) s m ([.ref b, .int x, .ref d] : List Value).toArray below meth c U2.heap [] 1 6 (MQ below (va_Qi (fun r (_ : Unit) => r = 1) (fun _ _ => True) (fun q => s.heap.size ≤ q)) ([.ref b, .int x, .ref d] : List Value).toArray s 1 6 (fun q => s.heap.size ≤ q)) (F0 m 12 ls [.ref v]) := by
    refine lv_astore_n hexec hb dL_look_12 rfl hl (by decide) rfl (fun ls2 hl2 => ?_)
    refine lv_iconst (v := 1) hexec hb dL_look_13 rfl ?_
    refine W.iret hexec hb hret (fun t ht hW => ⟨⟨1, (), rfl, rfl, trivial⟩, ?_, fun q hq _ => ?_⟩) (fun q hq => by cases hq) dL_look_14
    · rw [ht, ← hT]; exact p1
    · rw [ht]
      cases hz : s.heap[q]? with
      | none => exact absurd hz (by simp; exact hq)
      | some cz => exact p2 q cz (by show T.heap[q]? = _; rw [hT]; exact hz)
  obtain ⟨t, k1, k2⟩ := key (U2.setVm vm') rfl X3
  refine ⟨t, st t ?_, k2⟩
  have e1 := X2.pushThrowing_eq (F0 m 4 ls [.int 0, .ref d]) v
  rw [e1]
  refine st2 t ?_
  rw [xc]
  exact k1
