/-! LOOK holds where the statics of Throwable stand and the launch keeps no traces -/
theorem look_x {p : Program} {e : Env} {s : State} {m : MethodId} {args : Array Value} {below : List Frame} {meth : Method} {c : Code} {l : Launch} {D : va_G} {ad : Nat → Nat} {cA : Nat → ClassId} {Ln : Nat} {xs : Nat → Int32} {Q : State → Prop} (C : CLW (p, e, room_1, s, m, args, below, meth, c, l, D, ad, cA, 154) Ln xs) (hfl : l.stackTraces = false) (hO : OWN s) : LOOK (p, e, room_1, s, m, args, below, meth, c, l, D, ad, cA, 154) Q := by
  obtain ⟨hx, hb, hml, hown, hts, hret, hlocks, hK, hI, hN, hfr, hlo, hB, hge, hmx, hsx, hX, hXl⟩ := C
  intro kc ks h lv x hkc hks
  refine ⟨fun r h1 hx0 hyp k => ?_, fun hx0 k => ?_⟩
  · intro H locs ls hP hS hl
    have hsub : ∀ q, AD 154 ad H.size q → AD 0 ad s.heap.size q := fun q hq => hq.elim (fun ⟨a, a1, a2⟩ => Or.inr (by rw [a2]; exact hge a a1)) (fun z => Or.inr (Nat.le_trans hS.1 z))
    refine va_calli (lk_run (As := ([.ref 0, .int x, .ref 153] : List Value).map (tr ad)) hx hb hml hown hts (G_look hyp (Nat.le_refl _) H.size) rfl rfl (Nat.le_trans (by decide) hfr) (Nat.le_trans (by decide) hlo) ⟨WP_blind, fun U hU hW => ⟨rfl, by rw [hU], by rw [hU]; exact hP, va_K.moved hW.alike hK, hI, hN.1.warm hW, STR_grow hN.2 (fun _ _ => rfl) hS (fun _ z => z) hsub hU hW⟩⟩ rfl (by rw [hl.1, hml]) ⟨Nat.le_trans (by omega) hmx, Nat.le_trans (by omega) hsx⟩) hS (fun q _ z => hsub q z) hsub (fun r1 u t H1 locs1 ht hvm hw hB1 hz hk hS1 => ?_)
    subst hw
    obtain ⟨hP1, hK1⟩ := hB1
    rw [ht] at hP1
    exact k H1 locs1 ls hP1 hS1 hl
  · intro H locs ls hP hS hl
    have hold : ∀ (q : Nat) (cell : Cell), s.heap[q]? = some cell → H[q]? = some cell := fun q cell hq => by
      have hlt : q < s.heap.size := (Array.getElem?_eq_some_iff.mp hq).1
      rw [hS.2.1 q hlt (fun z => z.elim (fun ⟨a, a1, _⟩ => absurd a1 (Nat.not_lt_zero a)) (fun z => by omega))]
      exact hq
    have he := WD_get (nh := 154) (ad := ad) (cA := cA) (h := h) (k := 0) (by decide)
    rw [sh_0] at he
    obtain ⟨cell, r1, r2, r3⟩ := va_recv (ci := 11) (q := (RX11, _, _)) hK hP rfl he
    refine va_calli (lk_run (As := ([.ref 0, .int x, .ref 153] : List Value).map (tr ad)) hx hb hml hown hts (B_look l hfl hx0 (ad 0) (ad 153) H.size) rfl rfl (Nat.le_trans (by decide) hfr) (Nat.le_trans (by decide) hlo) ⟨PB_blind, fun U hU hW => ⟨rfl, by rw [hU], ⟨cell, by rw [hU]; exact r1, r2, by rw [hW.alike.findClass]; exact r3⟩, hO.move hW (fun q cell hq => by rw [hU]; exact hold q cell hq)⟩⟩ rfl (by rw [hl.1, hml]) ⟨Nat.le_trans hkc hmx, Nat.le_trans hks hsx⟩) hS (fun q hq z => by omega) (fun q z => Or.inr (Nat.le_trans hS.1 z)) (fun r1 u t H1 locs1 ht hvm hw hB1 hz hk hS1 => ?_)
    subst hw
    exact k H1 locs1 ls (hP.kept (fun k q hq => hk q.1 (hP k q hq).lt (fun z => by have := (hP k q hq).lt; omega))) hS1 hl
