/-! OldLift.look outside 0 to 5: it throws -/
abbrev RMT (fr lo : Nat) : Room := { frames := fr, cells := 1, slots := 6, locals := lo }
theorem wth_out {x : Int32} (h : wth x 0 5 = false) : x.toInt < 0 ∨ 5 < x.toInt := by
  unfold wth at h
  have h := of_decide_eq_false h
  rw [Int32.le_iff_toInt_le, Int32.le_iff_toInt_le] at h
  have h0 : (0 : Int32).toInt = 0 := rfl
  have h5 : (5 : Int32).toInt = 5 := rfl
  rw [h0, h5] at h
  omega
def QcT : Array Value → State → Outcome → State → Prop := fun a st o t => ∃ (z : Nat) (ce : Cell), o = .threw z ∧ FramedT st o t [] 1 6 ∧ st.heap.size ≤ z ∧ t.heap[z]? = some ce ∧ Bundle.OwnCell a st RNS z .null ce
set_option maxHeartbeats 1000000 in
theorem T_X11_look (l : Launch) (hfl : l.stackTraces = false) {x : Int32} (hx0 : wth x 0 5 = false) (b : Nat) : MetFree l yX11_look (headSpec (Cond.code yX11_look cX11_look 2 (some .int) :: BW) (RMT 8 200)) (fun a U => a = ([.ref b, .int x] : List Value).toArray ∧ OWN U) (fun _ _ _ _ _ => True) QcT := by
  refine MetFree.of_bodyS (code := cX11_look) (maxLocals := 2) (ret := some .int) (by decide) ?_ ?_
  · intro args s m h hn
    obtain ⟨meth, c, h1, h2, h3, h4, h5, h6, -, -⟩ := Cond.code_spec hn (atoms_spec (ws := Cond.code yX11_look cX11_look 2 (some .int) :: BW) h _ List.mem_cons_self)
    exact ⟨meth, c, h1, h2, h3, h4, h5, h6⟩
  · intro p e s m args below meth c s₁ B hml hP _
    obtain ⟨rfl, hO⟩ := hP
    have hts := atoms_spec (ws := Cond.code yX11_look cX11_look 2 (some .int) :: BW) B.pre
    have hcode := hts _ List.mem_cons_self
    have hbw : ∀ w ∈ BW, w.before ([.ref b, .int x] : List Value).toArray s = true := fun w hw => hts w (List.mem_cons_of_mem _ hw)
    have X₀ := Stand.of_body B
    have htr : e.platform.stackTraces = false := by
      have q := X₀.admits.platform
      rw [q]
      exact hfl
    have hh0 : s₁.heap = s.heap := by rw [B.state]; rfl
    have hown : s.vm.findClass RX11 = some m.cls := findClass_of_methodNamed B.named
    have hexec := B.exec
    have hb := B.bytes
    have hlocks : meth.locks = false := B.notSynchronized
    have hnoh := covers_of_empty (B.noHandlers hcode)
    have K : W p l e (RMT 8 200) s m ([.ref b, .int x] : List Value).toArray below meth c s.heap [] 0 0 (fun t => ∃ o, t.status = .running ∧ Ended t below o ∧ QcT ([.ref b, .int x] : List Value).toArray s o t) (entryFrame m ([.ref b, .int x] : List Value).toArray 2) := by
      have hl := lv_entry ([.ref b, .int x] : List Value) (n := 2) (Nat.le_of_ble_eq_true rfl)
      rw [lg_entry_eq]
      generalize (lg_sl ([.ref b, .int x] : List Value) ++ List.replicate (2 - (lg_sl ([.ref b, .int x] : List Value)).length) Slot.unset).toArray = ls at hl ⊢
      refine lv_iload_n hexec hb dX11_look_0 rfl (lv_at hl 1 rfl) ?_
      refine lv_tableOut (tgt := 105) hexec hb dX11_look_1 (wth_out hx0) (by decide) ?_
      refine W.newc hexec hb hown (hbw _ ow_new) (hO _ (.instantiable RNS 6) (by simp [Bundle.ownAtoms0])) (hbw _ ow_ini) rfl dX11_look_105 (Nat.le_refl _) (Nat.le_refl _) (fun cC kC h1 h2 h3 h4 => ?_)
      refine W.eq (g2 := F0 m 108 ls [.ref s.heap.size]) rfl ?_
      refine lv_dup hexec hb dX11_look_108 rfl ?_
      intro T hT X
      have hcell : T.heap[s.heap.size]? = some { cls := cC, slots := kC.instanceTypes.map defaultValue } := by
        rw [hT]
        simp
      obtain ⟨U, hsteps, hrun, hend, hW, hsame, ce, hce, hown2⟩ := X.ctorThrow0 hexec htr (own := RX11) (cls := RNS) (names := upNS) (ic := 152) hown (by decide +kernel) (by decide +kernel) (fun y hy => hO _ y hy) (fun y hy => by cases hy) h1 h2 hcell (Nat.le_refl _)
        (g := F0 m 109 ls [.ref s.heap.size, .ref s.heap.size]) rfl (by rw [hml]; exact hl.1) rfl rfl (rest := []) rfl (by rw [hb]; exact dX11_look_109) (by rw [hb]; exact dX11_look_112) (hnoh _) (by decide) (Nat.le_of_ble_eq_true rfl) hlocks
      exact ⟨U, hsteps, .threw s.heap.size, hrun, hend, s.heap.size, ce, rfl, ⟨⟨_, rfl⟩, hW, hsame⟩, Nat.le_refl _, hce, hown2⟩
    obtain ⟨t, a1, o, b1, b2, b3⟩ := K s₁ hh0 X₀
    exact ⟨t, o, a1, b1, b2, b3⟩
