/-! look: the reference may run behind a write of the law's long -/
section
variable {F N nv B : Nat} {T : Nat → Int32 → Bool} {h h' h2 : PH}
theorem P_lookK (hN : 5000 ≤ N) (hF : F ≤ 6) (L : LnT T nv h) (W : NwI F h) (a : Int32) : (wth a 0 5 = true ∧ ∃ r h1, lookC N a h = some (r, h1) ∧ ∀ k : PH, k.1 = h1.1 → ∃ h2, F_X12_look N a k = some (r, h2) ∧ h2.1 103 0 = 0 ∧ LoF h h2) ∨ (wth a 0 5 = false ∧ F_X12_look N a h = some (0, hs h 103 0 1)) := by
  cases g : wth a 0 5
  · refine Or.inr ⟨rfl, ?_⟩
    unfold F_X12_look F_X12_look_b15
    rw [within_x, bI_s, g, if_pos (by decide), hb_e, if_pos (by simp [hs_1])]
  · refine Or.inl ⟨rfl, ?_⟩
    obtain ⟨s, o, w1, w2, w3, w4⟩ := W
    have ref : ∀ k : PH, k.1 103 33 = nI (msN s) → F_X12_look N a k = F_X12_look_b15 N a 0 k := fun k _ => by
      unfold F_X12_look
      rw [within_x, bI_s, g, if_neg (by decide)]
    have c0 : ∀ (k : PH) x y, ¬ (x = 103 ∧ y = 0) → (hs k 103 0 0).1 x y = k.1 x y := fun k x y z => c103 z
    have fr0 : ∀ k : PH, LoF h k → LoF h (hs k 103 0 0) := fun k f x y z => by rw [c0 k x y (by omega)]; exact f x y z
    obtain ⟨k, hk, rfl⟩ := wth_0n (k := 5) (by omega) g
    have n0 : ¬ (0 : Int32) = 1 := by decide
    have : k = 0 ∨ k = 1 ∨ k = 2 ∨ k = 3 ∨ k = 4 ∨ k = 5 := by omega
    rcases this with rfl | rfl | rfl | rfl | rfl | rfl
    · refine ⟨nI s.1, h, ?_, fun q eq => ⟨hs q 103 0 0, ?_, by simp [hs_1], fr0 q (fun x y _ => congrFun (congrFun eq x) y)⟩⟩
      · show some (h.1 14 2 &&& 255, h) = _
        rw [w1, relC o hF]
      · rw [ref q (by rw [eq]; exact w2)]
        unfold F_X12_look_b15
        rw [hb_e, show (hs q 103 0 0).1 103 0 = 0 by simp [hs_1], if_neg n0, if_neg (by decide), if_pos (by decide), c0 q 103 33 (by omega), eq, w2, relM o hF]
    · refine ⟨nI s.2.1, h, ?_, fun q eq => ⟨hs q 103 0 0, ?_, by simp [hs_1], fr0 q (fun x y _ => congrFun (congrFun eq x) y)⟩⟩
      · show F_X11_floorOf (h.1 14 2) h = _
        rw [w1, floorC o hF]
      · rw [ref q (by rw [eq]; exact w2)]
        unfold F_X12_look_b15
        rw [hb_e, show (hs q 103 0 0).1 103 0 = 0 by simp [hs_1], if_neg n0, if_neg (by decide), if_neg (by decide), if_pos (by decide), c0 q 103 33 (by omega), eq, w2, floorM o hF, bI_s]
    · refine ⟨nI s.2.2, h, ?_, fun q eq => ⟨hs q 103 0 0, ?_, by simp [hs_1], fr0 q (fun x y _ => congrFun (congrFun eq x) y)⟩⟩
      · show F_X11_doorOf (h.1 14 2) h = _
        rw [w1, doorC o hF]
      · rw [ref q (by rw [eq]; exact w2)]
        unfold F_X12_look_b15
        rw [hb_e, show (hs q 103 0 0).1 103 0 = 0 by simp [hs_1], if_neg n0, if_neg (by decide), if_neg (by decide), if_neg (by decide), c0 q 103 33 (by omega), eq, w2, openM o hF, bI_s]
        have o2 := o.2.2
        have : s.2.2 = 0 ∨ s.2.2 = 1 := by omega
        rcases this with e | e
        · rw [e, if_pos (by decide)]; rfl
        · rw [e, if_neg (by decide)]; rfl
    · obtain ⟨v, h1, e1, rfl, f1⟩ := lampsC hN L o hF
      have c1 : ∀ x y, x ≠ 20 → h1.1 x y = h.1 x y := fun x y z => congrFun (f1 x (by simp [z])) y
      refine ⟨nI (lmp T s), h1, ?_, fun q eq => ?_⟩
      · show F_X4_lampsIn N (h.1 14 2) h = _
        rw [w1, e1]
      have c3 : ∀ x y, x ≠ 20 → q.1 x y = h.1 x y := fun x y z => by rw [eq]; exact c1 x y z
      have L1 : LnT T nv (hs q 103 0 0) := LnT_q L (fun x y z => by unfold LnP at z; rw [c0 q x y (by omega), c3 x y (by omega)])
      obtain ⟨v2, h2, e2, rfl, f2⟩ := lampsM hN L1 o hF
      have c2 : ∀ x y, ¬ ((114 ≤ x ∧ x ≤ 123) ∨ (x = 103 ∧ y = 36)) → h2.1 x y = (hs q 103 0 0).1 x y := fun x y z => f2 x y (by simp [MvS]; omega) (by simp [MvK]; omega)
      refine ⟨h2, ?_, by rw [c2 103 0 (by omega)]; simp [hs_1], fun x y z => by rw [c2 x y (by omega), c0 q x y (by omega), c3 x y (by omega)]⟩
      rw [ref q (by rw [c3 103 33 (by decide)]; exact w2)]
      unfold F_X12_look_b15
      rw [hb_e, show (hs q 103 0 0).1 103 0 = 0 by simp [hs_1], if_neg n0, if_pos (by decide), if_pos (by decide), c0 q 103 33 (by omega), c3 103 33 (by decide), w2, e2, bI_s]
    · refine ⟨h.1 14 3, h, rfl, fun q eq => ⟨hs q 103 0 0, ?_, by simp [hs_1], fr0 q (fun x y _ => congrFun (congrFun eq x) y)⟩⟩
      rw [ref q (by rw [eq]; exact w2)]
      unfold F_X12_look_b15
      rw [hb_e, show (hs q 103 0 0).1 103 0 = 0 by simp [hs_1], if_neg n0, if_pos (by decide), if_neg (by decide), if_pos (by decide), c0 q 103 34 (by omega), eq, w3]
    · refine ⟨h.1 14 4, h, rfl, fun q eq => ⟨hs q 103 0 0, ?_, by simp [hs_1], fr0 q (fun x y _ => congrFun (congrFun eq x) y)⟩⟩
      rw [ref q (by rw [eq]; exact w2)]
      unfold F_X12_look_b15
      rw [hb_e, show (hs q 103 0 0).1 103 0 = 0 by simp [hs_1], if_neg n0, if_pos (by decide), if_neg (by decide), if_neg (by decide), c0 q 103 35 (by omega), eq, w4]
theorem S_lookK (hN : 5000 ≤ N) (hB : B < 512) (I : Inv B h) (x : Int32) : (wth x 0 5 = true ∧ ∃ r h1, lookC N x h = some (r, h1) ∧ ∀ k : PH, k.1 = h1.1 → ∃ h2, F_X12_look N x k = some (r, h2) ∧ h2.1 103 0 = 0 ∧ Inv (B + 1) h2) ∨ (wth x 0 5 = false ∧ F_X12_look N x h = some (0, hs h 103 0 1) ∧ Inv (B + 1) (hs h 103 0 1)) := by
  obtain ⟨F, T, nv, c2, c6, iC, iM, iT, iR, iL, iW, iA, iU, iG, iP, iY, iD, iE, iS, iN⟩ := I
  rcases P_lookK hN c6 iL iW x with ⟨g, r, h1, e1, e2⟩ | ⟨g, e2⟩
  · refine Or.inl ⟨g, r, h1, e1, fun q eq => ?_⟩
    obtain ⟨h2, e2, g1, ff⟩ := e2 q eq
    have f : ∀ a b, ¬ (a = 20 ∨ (114 ≤ a ∧ a ≤ 123) ∨ (a = 103 ∧ (b = 0 ∨ b = 36))) → h2.1 a b = h.1 a b := fun a b z => ff a b z
    exact ⟨h2, e2, g1, ⟨F, T, nv, c2, c6, k_C iC (fun a b z => f a b (by omega)), k_M iM (fun a b z => f a b (by omega)), k_T iT (fun a b z => f a b (by omega)), k_R iR (fun a b z => f a b (by omega)), k_L iL (fun a b z => f a b (by omega)), k_W iW (fun a b z => f a b (by omega)), k_A c6 iA (fun a b z => f a b (by omega)), k_U iU (fun a b z => f a b (by omega)), k_G c2 c6 iG (fun a b z => f a b (by omega)), k_P iP (fun a b z => f a b (by omega)), k_Y iY (fun a b z => f a b (by omega)), k_D iD (fun a b z => f a b (by omega)), k_E iE (fun a b z => f a b (by omega)), k_S iS (fun a b z => f a b (by omega)), k_N iN (fun a b z => f a b (by omega))⟩⟩
  · have f : ∀ a b, ¬ (a = 103 ∧ b = 0) → (hs h 103 0 1).1 a b = h.1 a b := fun a b z => by
      rw [hs_1]
      by_cases y : a = 103
      · rw [if_pos y, if_neg (by omega)]
      · rw [if_neg y]
    exact Or.inr ⟨g, e2, ⟨F, T, nv, c2, c6, k_C iC (fun a b z => f a b (by omega)), k_M iM (fun a b z => f a b (by omega)), k_T iT (fun a b z => f a b (by omega)), k_R iR (fun a b z => f a b (by omega)), k_L iL (fun a b z => f a b (by omega)), k_W iW (fun a b z => f a b (by omega)), k_A c6 iA (fun a b z => f a b (by omega)), k_U iU (fun a b z => f a b (by omega)), k_G c2 c6 iG (fun a b z => f a b (by omega)), k_P iP (fun a b z => f a b (by omega)), k_Y iY (fun a b z => f a b (by omega)), k_D iD (fun a b z => f a b (by omega)), k_E iE (fun a b z => f a b (by omega)), k_S iS (fun a b z => f a b (by omega)), k_N iN (fun a b z => f a b (by omega))⟩⟩
end
