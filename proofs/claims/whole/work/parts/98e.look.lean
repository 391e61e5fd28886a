/-! the law's call of its look: LOOK -/
theorem V_lastL {X : CT} {B : Nat} {cc : ByteArray} {nL : Nat} {own : String} {ret : Option FieldType} {fr lo : Nat} {Q : State → Prop} {h : PH} {pc : Nat} {lv : List (Option Value)} {st : List Value} (C : CX X B cc nL own ret fr lo) {k0 n : Nat} {i : Int32} {x : Int64} (d : decode cc pc = .ok (.lastore, 1)) (ak : AK B k0 3 n 0) (hi : inb i n = true) {h1 : PH} (eh : h1 = hsL h k0 i.toNatClampNeg x) (k : V X Q h1 (pc + 1) lv st) : V X Q h pc lv (.long x :: .int i :: .ref k0 :: st) := by
  obtain ⟨p, e, R, s, m, args, below, meth, c, l, D, ad, cA, nh⟩ := X
  obtain ⟨hx, hb, hml, hown, hts, hret, hlocks, hK, hI, hN, hfr, hlo, hB⟩ := C
  intro H locs ls hP hS hl
  subst eh
  have he := WD_get (nh := nh) (ad := ad) (cA := cA) (h := h) (Nat.lt_of_lt_of_le ak.1 hB)
  rw [ak.2] at he
  refine va_last hx hb hK hP (WD_AD hI) hS k0 3 he rfl (inb_in hi) d (fun H1 locs1 hP1 _ hS1 => k H1 locs1 ls ?_ hS1 hl)
  rwa [WD_set (h' := hsL h k0 i.toNatClampNeg x) (Nat.lt_of_lt_of_le ak.1 hB) (by rw [ak.2]; simp [cellE, hsL]) (fun a ha => by simp [hsL, ha])] at hP1
abbrev wsL : List Cond := Cond.codeWith yL_look cL_look 4 (some .int) hhL :: BW
theorem G_look {l : Launch} {D : va_G} {ad : Nat → Nat} {cA : Nat → ClassId} {nh : Nat} {N : Nat} {x r : Int32} {h h1 : PH} (hyp : lookC N x h = some (r, h1)) (hB : 154 ≤ nh) (sz : Nat) : Met l yL_look wsL (RM 5 200) (va_Pc (([.ref 0, .int x, .ref 153] : List Value).map (tr ad)) (WP nh D ad cA h sz)) (QcI nh D ad cA sz 0 (hsL h1 153 0 r.toInt64)) 0 0 (AD nh ad sz) := by
  refine va_MetW (cc := cL_look) (maxL := 4) (ret := some .int) (hh := hhL) (by decide) rfl ?_
  intro p e s m args below meth c s₁ B hml hv
  obtain ⟨rfl, hsz, hP, hK, hI, hN⟩ := hv
  subst hsz
  have hts := atoms_spec (ws := wsL) B.pre
  have hl := lv_entry (([.ref 0, .int x, .ref 153] : List Value).map (tr ad)) (n := 4) (Nat.le_of_ble_eq_true rfl)
  rw [lg_entry_eq]
  generalize (lg_sl (([.ref 0, .int x, .ref 153] : List Value).map (tr ad)) ++ List.replicate (4 - (lg_sl (([.ref 0, .int x, .ref 153] : List Value).map (tr ad))).length) Slot.unset).toArray = ls at hl ⊢
  have body : ∀ X : CT, xE X = (l, D, ad, cA, nh) → CX X 154 cL_look 4 RL (some .int) 5 200 → V X (QI X 0 (hsL h1 153 0 r.toInt64)) h 0 [some (.ref 0), some (.int x), some (.ref 153), none] [] := by
    intro X e1 C
    refine V_aload_n (pc := 0) C dL_look_0 rfl ?_
    refine V_iconst (pc := 1) (v := 0) C dL_look_1 (by decide) ?_
    refine V_aload_n (pc := 2) C dL_look_2 rfl ?_
    refine V_iload_n (pc := 3) C dL_look_3 rfl ?_
    refine V_callI (pc := 4) C dL_look_4 lm_L_7 mk_X11_look (B2 := 103) (k0 := 0) (ci := 11) ⟨by decide, _, sh_0⟩ rfl (M_X11_lookOK _ hyp) rfl pd_X11_look (by decide) (by decide) (by decide) (As := [.int x]) (rest := [.int 0, .ref 153]) rfl (Nat.le_of_ble_eq_true rfl) ?_
    refine V_i2l (pc := 7) C dL_look_7 ?_
    refine V_lastL (pc := 8) C dL_look_8 ak_153 rfl rfl ?_
    refine V_goto (pc := 9) (tgt := 15) C dL_look_9 (by decide) ?_
    refine V_iconst (pc := 15) (v := 0) C dL_look_15 (by decide) ?_
    exact V_iret (pc := 16) C dL_look_16
  exact body (p, e, RM 5 200, s, m, (([.ref 0, .int x, .ref 153] : List Value).map (tr ad)).toArray, below, meth, c, l, D, ad, cA, nh) rfl ⟨B.exec, B.bytes, hml, findClass_of_methodNamed B.named, fun w hw => hts w (List.mem_cons_of_mem _ hw), B.returns, B.notSynchronized, hK, hI, hN, Nat.le_refl _, Nat.le_refl _, hB⟩ s.heap [] ls hP va_S.rf (by rw [hml]; exact LV.start (vs := [.ref 0, .int x, .ref 153]) (k := 1) hl)
theorem lk_run {p : Program} {l : Launch} {e : Env} {R : Room} {s : State} {m : MethodId} {args : Array Value} {below : List Frame} {meth : Method} {c : Code} {H : Heap} {locs : List Loc} {cells slots mc ms : Nat} {ls : Array Slot} {As : List Value} {rm : Room} {Pc : Array Value → State → Prop} {Qc : Array Value → State → Outcome → State → Prop} {free : Addr → Prop}
    (hx : p.tables.exec = Jvm.exec) (hb : c.code = cL_law) (hml : c.maxLocals = 7) (hown : s.vm.findClass RL = some m.cls) (hbw : ∀ w ∈ BW, w.before args s = true) (hM : Met l yL_look wsL rm Pc Qc mc ms free) (hrc : rm.cells = mc) (hrs : rm.slots = ms) (hfr : rm.frames + 1 ≤ R.frames) (hlo : 8 + (4 + 11) + rm.locals ≤ R.locals) (hp : PreS s H Pc As) (hn : As.length = 3) (hsize : ls.size = 7) (hf : cells + mc ≤ R.cells ∧ slots + ms ≤ R.slots) :
    va_Run p l e R s m args below meth c H locs cells slots mc ms (F0 m 428 ls (As.reverse ++ [])) [] (Qc As.toArray) free := by
  have hws : ∀ w ∈ wsL, ∀ (a' : Array Value) (U : State), s.WarmedH U.vm → w.before a' U = true := fun w hw a' U hW => by
    rcases List.mem_cons.mp hw with h | h
    · rw [h]; exact word_at hW (good_of_word (bw_good ow_cw)) (hbw _ ow_cw)
    · exact word_at hW (good_of_word (bw_good h)) (hbw w h)
  have hK : Back l R p e below s args yL_look 3 8 (PreOf R mc ms Pc) (PostOf Qc mc ms free) := va_backW (hh := hhL) (bytes := cL_look) (maxL := 4) (ret := some .int) hM hp.1 hrc hrs hfr hlo hws List.mem_cons_self (fun a' U hW => word_at hW (good_of_word (bw_good ow_il)) (hbw _ ow_il))
  intro T hT X
  obtain ⟨mk, methM, cM, hnamed, hmethM, -, -, -, -, -, -, hsigM⟩ := Cond.codeWith_spec (hbw _ ow_cw)
  have hstatic : methM.isStatic = true := Cond.static_spec hnamed hmethM (hbw _ ow_st)
  obtain ⟨kP, hkP, -⟩ := className_of_methodNamed hnamed
  have hinitP : kP.init = .initialized := Cond.initialized_spec (findClass_of_methodNamed hnamed) hkP (hbw _ ow_il)
  have hlen : As.length = methM.sig.parameters.length := by
    have q : (parseMethodDescriptor yL_look.desc).map (fun d => d.parameters.length) = some 3 := by decide +kernel
    rw [hsigM] at q
    rw [hn]
    exact (Option.some.inj q).symm
  obtain ⟨vm₁, X₁, hstep₁⟩ := X.invokestatic hx hown (hbw _ lm_L_49) hnamed hmethM hstatic hkP hinitP ⟨by decide, by decide⟩ (g := F0 m 428 ls (As.reverse ++ [])) rfl (argsL := As) (rest := []) hlen rfl (by rw [hb]; exact dL_law_428)
  obtain ⟨v, ⟨U', l2, c2, s2⟩, X', ⟨g', mk', t, L, e1, e2, hq, h1, hL, h2, h3⟩, hsteps⟩ := hK m meth c ⟨T.setVm vm₁, locs, cells, slots⟩ (F0 m 428 ls []) (.invokestatic 49) mk As.toArray X₁ rfl (by rw [hml]; exact hsize) (by rw [hb]; exact dL_law_428) (Nat.le_of_ble_eq_true rfl) (X₁.named hnamed) ⟨hf.1, hf.2, hp.2 (T.setVm vm₁) hT X₁.warmed⟩
  dsimp only [Pt.U, Pt.locs, Pt.cells, Pt.slots] at X' e1 e2 h1 h2 h3 hsteps
  subst h1; subst h2; subst h3
  exact ⟨v, (T.setVm vm₁).calling g' mk' As.toArray, t, U', L, hT, X', hL, e1, e2, hq, fun target h => hstep₁ _ fun acts => by rw [doInvoke_state]; exact hsteps.trans h⟩
