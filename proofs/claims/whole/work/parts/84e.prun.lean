/-! run(), rode(), waits(), moved(), stopped() on both sides -/
def Pln (q : Nat → Nat) (u : Nat → Nat → Nat) (v : (Nat → Int32) → Int32) (h : PH) : Prop := Qok q u ∧ PqC q u h ∧ PqM q u h ∧ RwC v h ∧ RwM v h
def PlnP (a b : Nat) : Prop := (a = 51 ∧ 7 ≤ b ∧ b ≤ 14) ∨ (52 ≤ a ∧ a ≤ 57) ∨ (60 ≤ a ∧ a ≤ 62) ∨ (a = 103 ∧ (b = 1 ∨ b = 20 ∨ (53 ≤ b ∧ b ≤ 65))) ∨ ((a = 106 ∨ a = 107) ∧ b = 25) ∨ (a = 111 ∧ 1000 ≤ b ∧ b < 2000) ∨ (136 ≤ a ∧ a ≤ 141)
def RdB (q : Nat → Nat) (u : Nat → Nat → Nat) (v : (Nat → Int32) → Int32) (S0 : TSt) (h : PH) : Prop := Pln q u v h ∧ Ini S0 ∧ TrE q u 64 (sAll q u v (-1) S0) h
def RdI (h : PH) : Prop := h.1 64 19 = h.1 51 15 + h.1 51 16 → ∃ q u v S0, RdB q u v S0 h
def RuF (h h' : PH) : Prop := ∀ a b, ¬ (a = 59 ∨ a = 63 ∨ (64 ≤ a ∧ a ≤ 79) ∨ (114 ≤ a ∧ a ≤ 123) ∨ (142 ≤ a ∧ a ≤ 149) ∨ (a = 103 ∧ (b = 0 ∨ b = 74))) → h'.1 a b = h.1 a b
def RdX (h h' : PH) : Prop := RdI h' ∧ RuF h h' ∧ (h'.1 64 19 = h.1 64 19 ∨ h'.1 64 19 = h'.1 51 15 + h'.1 51 16)
section
variable {q : Nat → Nat} {u : Nat → Nat → Nat} {v : (Nat → Int32) → Int32} {way : Int32} {S S0 : TSt} {h h' h2 : PH} {N F : Nat}
theorem Pln_q (P : Pln q u v h) (e : ∀ a b, PlnP a b → h'.1 a b = h.1 a b) : Pln q u v h' := by
  unfold PlnP at e
  exact ⟨P.1, PqC_q P.2.1 (fun a b z => e a b (by omega)), PqM_q P.2.2.1 (fun a b z => e a b (by omega)), RwC_q P.2.2.2.1 (fun a b z => e a b (by omega)), RwM_q P.2.2.2.2 (fun a b z => e a b (by omega))⟩
theorem TrE_q {o : Nat} {x : TSt × Int32} (T : TrE q u o x h) (e : ∀ a b, o ≤ a ∧ a ≤ o + 15 → h'.1 a b = h.1 a b) : TrE q u o x h' := ⟨TrC_q T.1 (fun a b z => e a b (by omega)), by rw [e o 8 (by omega)]; exact T.2.1, fun j hj => by rw [e (o + 4) j (by omega)]; exact T.2.2 j hj⟩
theorem RdB_q (B : RdB q u v S0 h) (e : ∀ a b, PlnP a b ∨ (64 ≤ a ∧ a ≤ 79) → h'.1 a b = h.1 a b) : RdB q u v S0 h' := ⟨Pln_q B.1 (fun a b z => e a b (Or.inl z)), B.2.1, TrE_q B.2.2 (fun a b z => e a b (Or.inr (by omega)))⟩
theorem RdI_q (I : RdI h) (e : ∀ a b, PlnP a b ∨ (64 ≤ a ∧ a ≤ 79) ∨ (a = 51 ∧ (b = 15 ∨ b = 16)) → h'.1 a b = h.1 a b) : RdI h' := fun z => by
  rw [e 64 19 (by omega), e 51 15 (by omega), e 51 16 (by omega)] at z
  obtain ⟨q, u, v, S0, B⟩ := I z
  exact ⟨q, u, v, S0, RdB_q B (fun a b y => e a b (by
    rcases y with y | y
    · exact Or.inl y
    · exact Or.inr (Or.inl y)))⟩
theorem RdX_0 (I : RdI h) : RdX h (hs h 103 0 0) := by
  have e : ∀ a b, ¬ (a = 103 ∧ b = 0) → (hs h 103 0 0).1 a b = h.1 a b := fun a b z => by
    rw [hs_1]
    by_cases y : a = 103
    · rw [if_pos y, if_neg (by omega)]
    · rw [if_neg y]
  exact ⟨RdI_q I (fun a b z => e a b (by unfold PlnP at z; omega)), fun a b z => e a b (by omega), Or.inl (e 64 19 (by omega))⟩
theorem catch_x (hN : 5000 ≤ N) (B : ∃ q u v, Pln q u v h) (I : RdI h) : ∃ q u v S0 h1, F_X10_catchUp N 64 h = some h1 ∧ RdB q u v S0 h1 ∧ h1.1 64 19 = h1.1 51 15 + h1.1 51 16 ∧ ∀ a b, ¬ (a = 59 ∨ a = 63 ∨ (64 ≤ a ∧ a ≤ 79)) → h1.1 a b = h.1 a b := by
  unfold F_X10_catchUp F_X6_tellings
  rw [bI_s, bI_s]
  by_cases g : h.1 64 19 = h.1 51 15 + h.1 51 16
  · obtain ⟨q, u, v, S0, b⟩ := I g
    exact ⟨q, u, v, S0, h, by rw [if_pos g], b, g, fun _ _ _ => rfl⟩
  · rw [if_neg g, hb_e]
    obtain ⟨q, u, v, P⟩ := B
    have P1 : Pln q u v (hs h 64 19 (h.1 51 15 + h.1 51 16)) := Pln_q P (fun a b z => by unfold PlnP at z; rw [hs_o (by omega)])
    obtain ⟨h1, e1, S0, I0, T, f⟩ := simC_x (N := N) (o := 64) (way := -1) (by omega) (by omega) P1.1 P1.2.1 P1.2.2.2.1
    rw [e1, bV_s]
    refine ⟨q, u, v, S0, h1, rfl, ⟨Pln_q P1 (fun a b z => f a b (by unfold PlnP at z; omega)), I0, T⟩, ?_, fun a b z => ?_⟩
    · rw [f 64 19 (by omega), f 51 15 (by omega), f 51 16 (by omega)]
      simp [hs_1]
    · rw [f a b (by omega), hs_o (by omega)]
/-- the class has caught up; the reference runs from there -/
theorem both_x (hN : 5000 ≤ N) (B : ∃ q u v, Pln q u v h) (I : RdI h) : ∃ q u v S0 h1, F_X10_catchUp N 64 h = some h1 ∧ RdB q u v S0 h1 ∧ RdX h (hs h1 103 0 0) ∧ ∃ h2 b, F_X12_runs N (-1) (hs h1 103 0 0) = some h2 ∧ TrM b (sAll q u v (-1) S0).1 h2 ∧ h2.1 103 74 = (sAll q u v (-1) S0).2 ∧ PqM q u h2 ∧ RdX h h2 := by
  obtain ⟨q, u, v, S0, h1, e1, B1, t1, f1⟩ := catch_x hN B I
  have c0 : ∀ a b, ¬ (a = 103 ∧ b = 0) → (hs h1 103 0 0).1 a b = h1.1 a b := fun a b z => by
    rw [hs_1]
    by_cases y : a = 103
    · rw [if_pos y, if_neg (by omega)]
    · rw [if_neg y]
  have P1 : Pln q u v (hs h1 103 0 0) := Pln_q B1.1 (fun a b z => c0 a b (by unfold PlnP at z; omega))
  have B0 : RdB q u v S0 (hs h1 103 0 0) := RdB_q B1 (fun a b z => c0 a b (by unfold PlnP at z; omega))
  obtain ⟨h2, e2, ⟨b, T2⟩, E2, f2⟩ := runsM_x (way := -1) hN (Or.inl rfl) P1.1 P1.2.2.2.1.1 P1.2.2.1 P1.2.2.2.2 B1.2.1
  have t0 : (hs h1 103 0 0).1 64 19 = (hs h1 103 0 0).1 51 15 + (hs h1 103 0 0).1 51 16 := by rw [c0 64 19 (by omega), c0 51 15 (by omega), c0 51 16 (by omega)]; exact t1
  refine ⟨q, u, v, S0, h1, e1, B1, ⟨fun _ => ⟨q, u, v, S0, B0⟩, fun a b z => by rw [c0 a b (by omega)]; exact f1 a b (by omega), Or.inr t0⟩, h2, b, e2, T2, E2, PqM_q P1.2.2.1 (fun a b z => f2 a b (by omega)), ⟨fun _ => ⟨q, u, v, S0, RdB_q B0 (fun a b z => f2 a b (by unfold PlnP at z; omega))⟩, fun a b z => ?_, Or.inr ?_⟩⟩
  · rw [f2 a b (by omega), c0 a b (by omega)]; exact f1 a b (by omega)
  · rw [f2 64 19 (by omega), f2 51 15 (by omega), f2 51 16 (by omega)]; exact t0
theorem P_run (hN : 5000 ≤ N) (B : ∃ q u v, Pln q u v h) (I : RdI h) : ∃ r h1 h2, F_X11_run N h = some (r, h1) ∧ F_X12_run N h1 = some (r, h2) ∧ RdX h h2 := by
  obtain ⟨q, u, v, S0, h1, e1, B1, x0, h2, b, e2, T2, E2, P2, X⟩ := both_x hN B I
  refine ⟨h1.1 64 8, h1, h2, by unfold F_X11_run; rw [e1, bV_s], ?_, X⟩
  unfold F_X12_run
  rw [hb_e, e2, bV_s, E2, ← B1.2.2.2.1]
theorem P_rode (hN : 5000 ≤ N) (B : ∃ q u v, Pln q u v h) (I : RdI h) (a c : Int32) : ∃ r h1 h2, F_X11_rode N a c h = some (r, h1) ∧ F_X12_rode N a c h1 = some (r, h2) ∧ RdX h h2 := by
  obtain ⟨q, u, v, S0, h1, e1, B1, x0, h2, b, e2, T2, E2, P2, X⟩ := both_x hN B I
  have q5 : q 5 ≤ 24 := B1.1.1.2.2.2.2.2.2.2.2.1
  have K2 := (all_inv (v := v) (way := -1) B1.1.1 B1.2.1).1
  have T := B1.2.2
  have p57 : (hs h1 103 0 0).1 103 57 = nI (q 5) := by simp [hs_1]; exact B1.1.2.2.1.2.2.2.2.2.1
  unfold F_X11_rode F_X12_rode
  rw [e1, bV_s, T.1.2.1]
  -- nobody such
  by_cases g1 : a < 0
  · refine ⟨-1, h1, _, by rw [if_pos g1], ?_, x0⟩
    rw [hb_e, within_x, bI_s, show wth a 0 ((hs h1 103 0 0).1 103 57 - 1) = false from decide_eq_false (fun z => absurd g1 (Int32.not_lt.mpr z.1)), if_pos (by decide)]
  rw [if_neg g1]
  obtain ⟨i, hi, rfl⟩ := nI_of g1
  by_cases g2 : i < q 5
  · have w1 : wth (nI i) 0 (nI (q 5) - 1) = true := by
      rw [nI_m1 (by omega)]
      exact decide_eq_true ⟨nI_pos' hi, nI_le (by omega) (by omega)⟩
    rw [if_pos (nI_lt g2 (by omega))]
    have ref : ∀ k, k < 4 → F_X12_rode N (nI i) (nI k) h1 = some (if k = 0 then (sAll q u v (-1) S0).1 0 i else if k = 1 then (sAll q u v (-1) S0).1 1 i else if k = 2 then (sAll q u v (-1) S0).1 2 i else wts u (sAll q u v (-1) S0).1 i, h2) := fun k hk => by
      obtain ⟨a1, a2, a3⟩ := T2.1 i (by omega)
      unfold F_X12_rode
      rw [hb_e, within_x, bI_s, p57, w1, if_pos rfl, if_neg one10, within_x, bI_s, if_pos (show wth (nI k) 0 3 = true from decide_eq_true ⟨nI_pos' (by omega), (n_le_l 3 (by omega) (by omega)).mpr (by omega)⟩), if_neg one10, e2, bV_s, waitOf_x B1.1.1 K2 P2 T2 g2, bI_s, if_pos (nI_in0 (by omega : i < 24) (by omega)), if_pos (nI_in0 (by omega : i < 24) (by omega)), if_pos (nI_in0 (by omega : i < 24) (by omega)), nI_clamp (by omega), a1, a2, a3]
      have : k = 0 ∨ k = 1 ∨ k = 2 ∨ k = 3 := by omega
      rcases this with rfl | rfl | rfl | rfl <;> rfl
    have cls : ∀ k, k < 4 → (if nI k = 0 then (if inb (nI i) 24 = true then some (h1.1 65 (nI i).toNatClampNeg, h1) else none) else if nI k = 1 then (if inb (nI i) 24 = true then some (h1.1 66 (nI i).toNatClampNeg, h1) else none) else if nI k = 2 then (if inb (nI i) 24 = true then some (h1.1 67 (nI i).toNatClampNeg, h1) else none) else if nI k = 3 then (if inb (nI i) 24 = true then some (h1.1 68 (nI i).toNatClampNeg, h1) else none) else some ((-1 : Int32), h1)) = some (if k = 0 then (sAll q u v (-1) S0).1 0 i else if k = 1 then (sAll q u v (-1) S0).1 1 i else if k = 2 then (sAll q u v (-1) S0).1 2 i else wts u (sAll q u v (-1) S0).1 i, h1) := fun k hk => by
      rw [if_pos (nI_in0 (by omega : i < 24) (by omega)), if_pos (nI_in0 (by omega : i < 24) (by omega)), if_pos (nI_in0 (by omega : i < 24) (by omega)), if_pos (nI_in0 (by omega : i < 24) (by omega)), nI_clamp (by omega), show h1.1 65 i = _ from r_0 T.1, show h1.1 66 i = _ from r_1 T.1, show h1.1 67 i = _ from r_2 T.1, show h1.1 68 i = _ from T.2.2 i g2]
      have : k = 0 ∨ k = 1 ∨ k = 2 ∨ k = 3 := by omega
      rcases this with rfl | rfl | rfl | rfl <;> rfl
    by_cases g3 : wth c 0 3 = true
    · obtain ⟨k, hk, rfl⟩ := wth_0n (k := 3) (by omega) g3
      exact ⟨_, h1, h2, cls k (by omega), ref k (by omega), X⟩
    · have nc : ∀ k : Nat, k ≤ 3 → ¬ c = nI k := fun k hk z => g3 (by
        rw [z]
        exact decide_eq_true ⟨nI_pos' (by omega), (n_le_l 3 (by omega) (by omega)).mpr (by omega)⟩)
      refine ⟨-1, h1, _, by rw [if_neg (show ¬ c = 0 from nc 0 (by omega)), if_neg (show ¬ c = 1 from nc 1 (by omega)), if_neg (show ¬ c = 2 from nc 2 (by omega)), if_neg (show ¬ c = 3 from nc 3 (by omega))], ?_, x0⟩
      rw [hb_e, within_x, bI_s, p57, w1, if_pos rfl, if_neg one10, within_x, bI_s, if_neg g3, if_pos rfl]
  · refine ⟨-1, h1, _, by rw [if_neg (nI_nlt (by omega) hi)], ?_, x0⟩
    rw [hb_e, within_x, bI_s, p57, show wth (nI i) 0 (nI (q 5) - 1) = false from decide_eq_false (fun y => by
      by_cases z : q 5 = 0
      · rw [z] at y
        exact g1 (Int32.lt_of_le_of_lt y.2 (by decide))
      · rw [nI_m1 (by omega)] at y; exact nI_ge (by omega) hi y.2), if_pos (by decide)]
theorem P_waits (hN : 5000 ≤ N) (B : ∃ q u v, Pln q u v h) (I : RdI h) (a : Int32) : ∃ r h1 h2, F_X11_waits N a h = some (r, h1) ∧ F_X12_waits N a h1 = some (r, h2) ∧ RdX h h2 := by
  obtain ⟨q, u, v, S0, h1, e1, B1, x0, h2, b, e2, T2, E2, P2, X⟩ := both_x hN B I
  have Q := B1.1.1
  have q5 : q 5 ≤ 24 := Q.2.2.2.2.2.2.2.2.1
  obtain ⟨K2, I2⟩ := all_inv (v := v) (way := -1) Q B1.2.1
  have T := B1.2.2
  have p57 : (hs h1 103 0 0).1 103 57 = nI (q 5) := by simp [hs_1]; exact B1.1.2.2.1.2.2.2.2.2.1
  unfold F_X11_waits F_X12_waits
  rw [e1, bV_s, T.1.2.1]
  by_cases g : q 5 = 0
  · refine ⟨-1, h1, _, by rw [if_pos (by rw [g]; rfl)], ?_, x0⟩
    rw [hb_e, p57, if_pos (by rw [g]; rfl)]
  · have n0 : ¬ nI (q 5) = 0 := fun z => g ((n_eq_l 0 (by omega) (by omega)).mp z)
    have ll := lw_lt (u := u) (S := (sAll q u v (-1) S0).1) (q 5) (by omega)
    rw [if_neg n0]
    by_cases g3 : wth a 0 3 = true
    · refine ⟨wby q u (sAll q u v (-1) S0).1 a, h1, h2, ?_, ?_, X⟩
      · obtain ⟨k, hk, rfl⟩ := wth_0n (k := 3) (by omega) g3
        rw [sumC_x (by omega) Q T, longC_x (by omega) Q (by omega) T, outC_x Q T, bI_s, bI_s, bI_s, bI_s, if_pos (nI_in0 (by omega : lw u (sAll q u v (-1) S0).1 (q 5) < 24) (by omega)), nI_clamp (by omega), show h1.1 68 (lw u (sAll q u v (-1) S0).1 (q 5)) = _ from T.2.2 _ ll]
        have : k = 0 ∨ k = 1 ∨ k = 2 ∨ k = 3 := by omega
        rcases this with rfl | rfl | rfl | rfl <;> rfl
      · rw [hb_e, p57, if_neg n0, within_x, bI_s, if_pos g3, if_neg one10, e2, bV_s, wby_x (by omega) Q (by omega) K2 I2 P2 T2, bI_s]
    · have nc : ∀ k : Nat, k ≤ 3 → ¬ a = nI k := fun k hk z => g3 (by
        rw [z]
        exact decide_eq_true ⟨nI_pos' (by omega), (n_le_l 3 (by omega) (by omega)).mpr (by omega)⟩)
      refine ⟨-1, h1, _, by rw [if_neg (show ¬ a = 0 from nc 0 (by omega)), if_neg (show ¬ a = 1 from nc 1 (by omega)), if_neg (show ¬ a = 2 from nc 2 (by omega)), if_neg (show ¬ a = 3 from nc 3 (by omega))], ?_, x0⟩
      rw [hb_e, p57, if_neg n0, within_x, bI_s, if_neg g3, if_pos rfl]
theorem P_moved (hN : 5000 ≤ N) (B : ∃ q u v, Pln q u v h) (I : RdI h) (a c : Int32) : ∃ r h1 h2, F_X11_moved N a c h = some (r, h1) ∧ F_X12_moved N a c h1 = some (r, h2) ∧ RdX h h2 := by
  obtain ⟨q0, u0, v0, P0⟩ := id B
  obtain ⟨k0, k0', k1, k1', -⟩ := id P0.1
  have c8 : h.1 51 8 = nI (q0 1) := P0.2.1.2.1
  have c7 : h.1 51 7 = nI (q0 0) := P0.2.1.1
  have m53 : h.1 103 53 = nI (q0 1) := P0.2.2.1.2.1
  have m1 : h.1 103 1 = nI (q0 0) := P0.2.2.1.1
  by_cases g : wth a 0 (nI (q0 1) - 1) = true ∧ wth c 0 (nI (q0 0) - 2) = true
  · obtain ⟨g1, g2⟩ := g
    rw [nI_m1 (by omega)] at g1
    rw [nI_m2 (by omega)] at g2
    obtain ⟨i, hi, rfl⟩ := wth_0n (by omega) g1
    obtain ⟨j, hj, rfl⟩ := wth_0n (by omega) g2
    obtain ⟨q, u, v, S0, h1, e1, B1, x0, h2, b, e2, T2, E2, P2, X⟩ := both_x hN B I
    have p : ∀ x y, x = 103 → y ≠ 0 → y ≠ 74 → (hs h1 103 0 0).1 x y = h.1 x y := fun x y z z1 z2 => x0.2.1 x y (by omega)
    have T := B1.2.2
    refine ⟨h1.1 (71 + i) j, h1, h2, ?_, ?_, X⟩
    · unfold F_X11_moved
      rw [if_neg (nlt0 (by omega)), c8, if_neg (nI_ge (by omega) (by omega)), if_neg (nlt0 (by omega)), c7, nI_m1 (by omega), if_pos (nI_lt (by omega) (by omega)), e1, bV_s, if_pos (nI_in0 (by omega : i < 2) (by omega)), if_pos (nI_in0 (by omega : j < 5) (by omega)), nI_clamp (by omega), nI_clamp (by omega)]
    · have pe : h1.1 (71 + i) j = (sAll q u v (-1) S0).1 (4 + i) j := by
        have := congrFun (T.1.2.2.1 (4 + i) (by omega)) j
        rw [← this]
        have : i = 0 ∨ i = 1 := by omega
        rcases this with rfl | rfl <;> rfl
      unfold F_X12_moved
      rw [hb_e, within_x, bI_s, p 103 53 rfl (by omega) (by omega), m53, nI_m1 (by omega), g1, if_pos rfl, if_neg one10, within_x, bI_s, p 103 1 rfl (by omega) (by omega), m1, nI_m2 (by omega), g2, if_pos rfl, if_neg one10, e2, bV_s, show (5 : Int32) = nI 5 from rfl, pk_mul, nI_add, if_pos (nI_in0 (by omega : 5 * i + j < 10) (by omega)), nI_clamp (by omega), T2.2.2 i (by omega) j (by omega), pe]
  · refine ⟨-1, h, _, ?_, ?_, RdX_0 I⟩
    · unfold F_X11_moved
      rw [c8, c7]
      by_cases y1 : a < 0
      · rw [if_pos y1]
      · rw [if_neg y1]
        obtain ⟨i, hi, rfl⟩ := nI_of y1
        by_cases y2 : q0 1 ≤ i
        · rw [if_pos (nI_le y2 hi)]
        · rw [if_neg (nI_ge (by omega) (by omega))]
          by_cases y3 : c < 0
          · rw [if_pos y3]
          · rw [if_neg y3]
            obtain ⟨j, hj, rfl⟩ := nI_of y3
            rw [nI_m1 (by omega)]
            by_cases y4 : j < q0 0 - 1
            · exact absurd ⟨by rw [nI_m1 (by omega)]; exact decide_eq_true ⟨nI_pos' hi, nI_le (by omega) (by omega)⟩, by rw [nI_m2 (by omega)]; exact decide_eq_true ⟨nI_pos' hj, nI_le (by omega) (by omega)⟩⟩ g
            · rw [if_neg (nI_nlt (by omega) hj)]
    · unfold F_X12_moved
      rw [hb_e, within_x, bI_s, show (hs h 103 0 0).1 103 53 = nI (q0 1) by simp [hs_1]; exact m53]
      by_cases y1 : wth a 0 (nI (q0 1) - 1) = true
      · rw [if_pos y1, if_neg one10, within_x, bI_s, show (hs h 103 0 0).1 103 1 = nI (q0 0) by simp [hs_1]; exact m1, if_neg (fun z => g ⟨y1, z⟩), if_pos rfl]
      · rw [if_neg y1, if_pos rfl]
theorem P_stopped (hN : 5000 ≤ N) (B : ∃ q u v, Pln q u v h) (I : RdI h) (a : Int32) : ∃ r h1 h2, F_X11_stopped N a h = some (r, h1) ∧ F_X12_stopped N a h1 = some (r, h2) ∧ RdX h h2 := by
  obtain ⟨q0, u0, v0, P0⟩ := id B
  obtain ⟨k0, k0', k1, k1', -⟩ := id P0.1
  have c8 : h.1 51 8 = nI (q0 1) := P0.2.1.2.1
  have m53 : h.1 103 53 = nI (q0 1) := P0.2.2.1.2.1
  by_cases g1 : wth a 0 (nI (q0 1) - 1) = true
  · rw [nI_m1 (by omega)] at g1
    obtain ⟨i, hi, rfl⟩ := wth_0n (by omega) g1
    obtain ⟨q, u, v, S0, h1, e1, B1, x0, h2, b, e2, T2, E2, P2, X⟩ := both_x hN B I
    have p : ∀ x y, x = 103 → y ≠ 0 → y ≠ 74 → (hs h1 103 0 0).1 x y = h.1 x y := fun x y z z1 z2 => x0.2.1 x y (by omega)
    refine ⟨h1.1 69 i, h1, h2, ?_, ?_, X⟩
    · unfold F_X11_stopped
      rw [if_neg (nlt0 (by omega)), c8, if_pos (nI_lt (by omega) (by omega)), e1, bV_s, if_pos (nI_in0 (by omega : i < 2) (by omega)), nI_clamp (by omega)]
    · have pe : h1.1 69 i = (sAll q u v (-1) S0).1 3 i := r_3 B1.2.2.1
      unfold F_X12_stopped
      rw [hb_e, within_x, bI_s, p 103 53 rfl (by omega) (by omega), m53, nI_m1 (by omega), g1, if_pos rfl, if_neg one10, e2, bV_s, if_pos (nI_in0 (by omega : i < 2) (by omega)), nI_clamp (by omega), (T2.2.1 i (by omega)).2.2.1, pe]
  · refine ⟨-1, h, _, ?_, ?_, RdX_0 I⟩
    · unfold F_X11_stopped
      rw [c8]
      by_cases y1 : a < 0
      · rw [if_pos y1]
      · rw [if_neg y1]
        obtain ⟨i, hi, rfl⟩ := nI_of y1
        by_cases y2 : i < q0 1
        · exact absurd (by rw [nI_m1 (by omega)]; exact decide_eq_true ⟨nI_pos' hi, nI_le (by omega) (by omega)⟩) g1
        · rw [if_neg (nI_nlt (by omega) hi)]
    · unfold F_X12_stopped
      rw [hb_e, within_x, bI_s, show (hs h 103 0 0).1 103 53 = nI (q0 1) by simp [hs_1]; exact m53, if_neg g1, if_pos rfl]
end
