/-! the plan out of what is told; floors(), count(), look() on both sides -/
section
variable {F N nv : Nat} {T : Nat → Int32 → Bool} {h h' h2 : PH}
def Rv (b : Bool) (E : List Nat) : (Nat → Int32) → Int32 := fun fa => if b then ((rpn (lfC 0 fa) E []).getD []).headD 0 else 0
theorem lfC_c {fa fb : Nat → Int32} (e : ∀ a, a < 10 → fa a = fb a) : lfC 0 fa = lfC 0 fb := by
  funext k a
  unfold lfC
  by_cases h1 : a < 10
  · rw [e a h1]
  · rw [if_neg h1, if_neg h1]
theorem RuI_w (R : RuI h) : ∃ v, RwC v h ∧ RwM v h := by
  obtain ⟨E, C, b, R⟩ := R
  refine ⟨Rv b E, ?_, ?_⟩
  · cases b with
    | true =>
      rw [if_pos rfl] at R
      obtain ⟨r1, r2, r3, r4, r5, r6, r7⟩ := R
      refine ⟨fun fa fb e => by unfold Rv; rw [lfC_c e], E, r1.1, r2, fun fa => ?_⟩
      obtain ⟨v, v1, -⟩ := r1.2 100 (lfC 0 fa) (fun c => fa (c - 1)) (Nat.le_refl _) ⟨fun a => rfl, fun a ha => by unfold lfC; rw [if_neg (by decide), if_neg (by decide), if_pos ha]; rfl⟩
      refine ⟨[v], v1, ?_⟩
      unfold Rv
      rw [v1]
      rfl
    | false =>
      rw [if_neg (by decide)] at R
      refine ⟨fun fa fb e => rfl, [], fun x hx => absurd hx (by simp), R.1, fun fa => ⟨[], rfl, rfl⟩⟩
  · cases b with
    | true =>
      rw [if_pos rfl] at R
      obtain ⟨r1, r2, r3, r4, r5, r6, r7⟩ := R
      refine Or.inr ⟨r3, C, r4, r5, r6, r7, fun N ψ hN => ?_⟩
      obtain ⟨v, v1, v2⟩ := r1.2 N (lfC 0 (fun a => ψ (a + 1))) ψ hN ⟨fun a => rfl, fun a ha => by unfold lfC; rw [if_neg (by decide), if_neg (by decide), if_pos ha]⟩
      unfold Rv
      rw [v1]
      exact v2
    | false =>
      rw [if_neg (by decide)] at R
      exact Or.inl ⟨R.2, fun fa => rfl⟩
theorem PB_of (h2 : 2 ≤ F) (hF : F ≤ 6) (M : HM F h) (P : PlI F h) (R : RuI h) : ∃ q u v, Pln q u v h := by
  obtain ⟨v, r1, r2⟩ := RuI_w R
  obtain ⟨⟨c, z, d, p, ⟨a1, a2, a3, a4, a5, a6⟩, c1, c2, c3, c4, c5, c6, c7, c8, c9⟩, ⟨n, tm, fm, to, p1, p2, p3, p4⟩, ⟨nh, ht, hc, hk, q1, q2, q3, q4⟩, ⟨f, f1, f2, f3⟩⟩ := P
  refine ⟨fun k => if k = 0 then F else if k = 1 then c else if k = 2 then z else if k = 3 then d else if k = 4 then p else if k = 5 then n else if k = 6 then nh else f, fun k => if k = 0 then tm else if k = 1 then fm else if k = 2 then to else if k = 3 then ht else if k = 4 then hc else hk, v, ⟨h2, hF, a1, a2, a3, a4, a5, a6, p1, q1, f1, fun i hi => ⟨(p4 i hi).1, (p4 i hi).2.1, (p4 i hi).2.2.1, (p4 i hi).2.2.2.1⟩, fun i hi => ⟨(q4 i hi).1, (q4 i hi).2.1, (q4 i hi).2.2.1, (q4 i hi).2.2.2.1⟩⟩, ⟨c1, c2, c3, c4, c5, p2, q2, f2, fun i hi => ⟨(p4 i hi).2.2.2.2.1, (p4 i hi).2.2.2.2.2.1, (p4 i hi).2.2.2.2.2.2.1⟩, fun i hi => ⟨(q4 i hi).2.2.2.2.1, (q4 i hi).2.2.2.2.2.1, (q4 i hi).2.2.2.2.2.2.1⟩⟩, ⟨M, c6, c7, c8, c9, p3, q3, f3, fun i hi => ⟨(p4 i hi).2.2.2.2.2.2.2.1, (p4 i hi).2.2.2.2.2.2.2.2.1, (p4 i hi).2.2.2.2.2.2.2.2.2⟩, fun i hi => ⟨(q4 i hi).2.2.2.2.2.2.2.1, (q4 i hi).2.2.2.2.2.2.2.2.1, (q4 i hi).2.2.2.2.2.2.2.2.2⟩⟩, r1, r2⟩
/-- look in the class, where it does not throw -/
def lookC (N : Nat) (a : Int32) (h : PH) : Option (Int32 × PH) := if a = 0 then some (h.1 14 2 &&& 255, h) else if a = 1 then F_X11_floorOf (h.1 14 2) h else if a = 2 then F_X11_doorOf (h.1 14 2) h else if a = 3 then F_X4_lampsIn N (h.1 14 2) h else if a = 4 then some (h.1 14 3, h) else if a = 5 then some (h.1 14 4, h) else none
def LoF (h h' : PH) : Prop := ∀ a b, ¬ (a = 20 ∨ (114 ≤ a ∧ a ≤ 123) ∨ (a = 103 ∧ (b = 0 ∨ b = 36))) → h'.1 a b = h.1 a b
theorem P_look (hN : 5000 ≤ N) (hF : F ≤ 6) (L : LnT T nv h) (W : NwI F h) (a : Int32) : (wth a 0 5 = true ∧ ∃ r h1 h2, lookC N a h = some (r, h1) ∧ F_X12_look N a h1 = some (r, h2) ∧ h2.1 103 0 = 0 ∧ LoF h h2) ∨ (wth a 0 5 = false ∧ F_X12_look N a h = some (0, hs h 103 0 1)) := by
  cases g : wth a 0 5
  · refine Or.inr ⟨rfl, ?_⟩
    unfold F_X12_look F_X12_look_b15
    rw [within_x, bI_s, g, if_pos (by decide), hb_e, if_pos (by simp [hs_1])]
  · refine Or.inl ⟨rfl, ?_⟩
    obtain ⟨s, o, w1, w2, w3, w4⟩ := W
    have ref : ∀ k : PH, k.1 103 33 = nI (msN s) → F_X12_look N a k = F_X12_look_b15 N a 0 k := fun k _ => by
      unfold F_X12_look
      rw [within_x, bI_s, g, if_neg (by decide)]
    have c0 : ∀ (k : PH) x y, ¬ (x = 103 ∧ y = 0) → (hs k 103 0 0).1 x y = k.1 x y := fun k x y z => c103 z
    have fr0 : ∀ k : PH, LoF h k → LoF h (hs k 103 0 0) := fun k f x y z => by rw [c0 k x y (by omega)]; exact f x y z
    obtain ⟨k, hk, rfl⟩ := wth_0n (k := 5) (by omega) g
    have n0 : ¬ (0 : Int32) = 1 := by decide
    have : k = 0 ∨ k = 1 ∨ k = 2 ∨ k = 3 ∨ k = 4 ∨ k = 5 := by omega
    rcases this with rfl | rfl | rfl | rfl | rfl | rfl
    · refine ⟨nI s.1, h, hs h 103 0 0, ?_, ?_, by simp [hs_1], fr0 h (fun _ _ _ => rfl)⟩
      · show some (h.1 14 2 &&& 255, h) = _
        rw [w1, relC o hF]
      · rw [ref h w2]
        unfold F_X12_look_b15
        rw [hb_e, show (hs h 103 0 0).1 103 0 = 0 by simp [hs_1], if_neg n0, if_neg (by decide), if_pos (by decide), c0 h 103 33 (by omega), w2, relM o hF]
    · refine ⟨nI s.2.1, h, hs h 103 0 0, ?_, ?_, by simp [hs_1], fr0 h (fun _ _ _ => rfl)⟩
      · show F_X11_floorOf (h.1 14 2) h = _
        rw [w1, floorC o hF]
      · rw [ref h w2]
        unfold F_X12_look_b15
        rw [hb_e, show (hs h 103 0 0).1 103 0 = 0 by simp [hs_1], if_neg n0, if_neg (by decide), if_neg (by decide), if_pos (by decide), c0 h 103 33 (by omega), w2, floorM o hF, bI_s]
    · refine ⟨nI s.2.2, h, hs h 103 0 0, ?_, ?_, by simp [hs_1], fr0 h (fun _ _ _ => rfl)⟩
      · show F_X11_doorOf (h.1 14 2) h = _
        rw [w1, doorC o hF]
      · rw [ref h w2]
        unfold F_X12_look_b15
        rw [hb_e, show (hs h 103 0 0).1 103 0 = 0 by simp [hs_1], if_neg n0, if_neg (by decide), if_neg (by decide), if_neg (by decide), c0 h 103 33 (by omega), w2, openM o hF, bI_s]
        have o2 := o.2.2
        have : s.2.2 = 0 ∨ s.2.2 = 1 := by omega
        rcases this with e | e
        · rw [e, if_pos (by decide)]; rfl
        · rw [e, if_neg (by decide)]; rfl
    · obtain ⟨v, h1, e1, rfl, f1⟩ := lampsC hN L o hF
      have c1 : ∀ x y, x ≠ 20 → h1.1 x y = h.1 x y := fun x y z => congrFun (f1 x (by simp [z])) y
      have L1 : LnT T nv (hs h1 103 0 0) := LnT_q L (fun x y z => by unfold LnP at z; rw [c0 h1 x y (by omega), c1 x y (by omega)])
      obtain ⟨v2, h2, e2, rfl, f2⟩ := lampsM hN L1 o hF
      have c2 : ∀ x y, ¬ ((114 ≤ x ∧ x ≤ 123) ∨ (x = 103 ∧ y = 36)) → h2.1 x y = (hs h1 103 0 0).1 x y := fun x y z => f2 x y (by simp [MvS]; omega) (by simp [MvK]; omega)
      refine ⟨nI (lmp T s), h1, h2, ?_, ?_, by rw [c2 103 0 (by omega)]; simp [hs_1], fun x y z => by rw [c2 x y (by omega), c0 h1 x y (by omega), c1 x y (by omega)]⟩
      · show F_X4_lampsIn N (h.1 14 2) h = _
        rw [w1, e1]
      · rw [ref h1 (by rw [c1 103 33 (by decide)]; exact w2)]
        unfold F_X12_look_b15
        rw [hb_e, show (hs h1 103 0 0).1 103 0 = 0 by simp [hs_1], if_neg n0, if_pos (by decide), if_pos (by decide), c0 h1 103 33 (by omega), c1 103 33 (by decide), w2, e2, bI_s]
    · refine ⟨h.1 14 3, h, hs h 103 0 0, rfl, ?_, by simp [hs_1], fr0 h (fun _ _ _ => rfl)⟩
      rw [ref h w2]
      unfold F_X12_look_b15
      rw [hb_e, show (hs h 103 0 0).1 103 0 = 0 by simp [hs_1], if_neg n0, if_pos (by decide), if_neg (by decide), if_pos (by decide), c0 h 103 34 (by omega), w3]
    · refine ⟨h.1 14 4, h, hs h 103 0 0, rfl, ?_, by simp [hs_1], fr0 h (fun _ _ _ => rfl)⟩
      rw [ref h w2]
      unfold F_X12_look_b15
      rw [hb_e, show (hs h 103 0 0).1 103 0 = 0 by simp [hs_1], if_neg n0, if_pos (by decide), if_neg (by decide), if_neg (by decide), c0 h 103 35 (by omega), w4]
end
