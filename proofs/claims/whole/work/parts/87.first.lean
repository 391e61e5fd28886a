/-! the first heap: what holds behind the two constructors -/
def hZ : PH := (fun _ _ => 0, fun _ _ => 0)
abbrev hA0 : PH := hs (hs (hs hZ 64 19 (-1)) 80 4 (-1)) 83 19 (-1)
abbrev hB0 (h : PH) : PH := hs (hs (hs (hs (hs (hs (hs h 103 1 4) 103 53 1) 103 54 4) 103 55 1) 103 65 (-1)) 103 80 1000) 103 81 1
theorem zr_0 (k : Nat) : Zr k hZ := ⟨fun _ => rfl, fun _ => rfl⟩
theorem house_2 {N : Nat} {x : Int32} {h h' : PH} (e : F_X11_startHouse N x h = some h') : h'.2 = h.2 := by
  unfold F_X11_startHouse F_X11_startCircuit F_X4_restart F_X0_forget F_X3_forget F_X6_startHouse F_X6_setCars F_X6_dismiss F_X2_clear F_X7_clear at e
  simp only [hb_e, bV_s] at e
  cases e
  rfl
theorem first_x (N : Nat) : ∃ h, F_X11_startHouse N 4 hA0 = some h ∧ (∀ k, 103 ≤ k → Zr k h) ∧ Inv 0 (hB0 h) := by
  obtain ⟨h, e1, e2, e3, e4⟩ := house_x (N := N) (F := 4) (h := hA0)
  have f : ∀ a b, a ∉ ShS → (a, b) ∉ ShK → h.1 a b = hA0.1 a b := fun a b z1 z2 => e4 a b z1 z2
  refine ⟨h, e1, fun k hk => ⟨fun j => ?_, fun j => ?_⟩, ?_⟩
  · rw [f k j (by simp [ShS]; omega) (by simp [ShK]; omega)]
    have q : k ≠ 64 ∧ k ≠ 80 ∧ k ≠ 83 := by omega
    simp [hs_1, hZ, q]
  · rw [house_2 e1]; rfl
  have g : ∀ a b, a ≠ 103 → (hB0 h).1 a b = h.1 a b := fun a b z => by simp [hs_1, z]
  have g3 : ∀ b, (hB0 h).1 103 b = if b = 81 then 1 else if b = 80 then 1000 else if b = 65 then -1 else if b = 55 then 1 else if b = 54 then 4 else if b = 53 then 1 else if b = 1 then 4 else 0 := fun b => by
    have : h.1 103 b = 0 := by rw [f 103 b (by decide) (by simp [ShK])]; simp [hs_1, hZ]
    simp [hs_1, this]
  have z0 : ∀ a b, 103 < a → (hB0 h).1 a b = 0 := fun a b z => by
    rw [g a b (by omega), f a b (by simp [ShS]; omega) (by simp [ShK]; omega)]
    have q : a ≠ 64 ∧ a ≠ 80 ∧ a ≠ 83 := by omega
    simp [hs_1, hZ, q]
  have zc : ∀ a b, a = 1 ∨ a = 2 ∨ a = 39 ∧ b = 13 ∨ a = 43 ∨ a = 40 ∨ a = 51 ∧ b = 16 ∨ a = 49 ∨ a = 50 ∨ a = 44 ∨ a = 41 → (hB0 h).1 a b = 0 := fun a b z => by
    rw [g a b (by omega), f a b (by simp [ShS]; omega) (by simp [ShK]; omega)]
    have q : a ≠ 64 ∧ a ≠ 80 ∧ a ≠ 83 := by omega
    simp [hs_1, hZ, q]
  have C : FrC 4 (hB0 h) := by
    obtain ⟨a1, a2, a3, a4, a5, a6, a7, a8, a9, a10, a11, a12, a13, a14, a15, a16, a17, a18, a19, a20, a21, a22, a23, a24⟩ := e2
    refine ⟨?_, ?_, ?_, ?_, ?_, fun l hl => ⟨?_, ?_⟩, ?_, ?_, ?_, ?_, ?_, ?_, ?_, ?_, ?_, ?_, ?_, ?_, ?_, ?_, ?_, ?_, ?_, ?_⟩
    all_goals rw [g _ _ (by decide)]
    all_goals first | assumption | exact (a6 l hl).1 | exact (a6 l hl).2
  have M : FrM 4 (hB0 h) := by
    refine ⟨?_, fun l hl => z0 105 l (by omega), ?_, ?_, ?_, ?_, ?_, ?_, ?_, ?_, ?_, ?_, ?_, ?_, ?_, ?_, ?_, ?_, ?_⟩
    all_goals rw [g3]; rfl
  obtain ⟨x1, x2, x3, x4, x5, x6, x7, x8, x9, x10⟩ := fresh_x (F := 4) (by omega) (by omega) C M
  have n1 : (hB0 h).1 51 15 = nI 2 := by rw [g 51 15 (by decide), e3]; simp [hs_1, hZ]; decide
  have n2 : (hB0 h).1 51 16 = nI 0 := zc 51 16 (by omega)
  have n3 : (hB0 h).1 64 19 = -1 := by
    rw [g 64 19 (by decide), f 64 19 (by decide) (by decide)]; simp [hs_1]
  have n4 : (hB0 h).1 80 4 = -1 := by
    rw [g 80 4 (by decide), f 80 4 (by decide) (by decide)]; simp [hs_1]
  refine ⟨4, fun _ _ => false, 0, by omega, by omega, x1, x2, ?_, x3, x4, x5, x6, x7, x8, x9, x10, fun z => ?_, fun z => ?_, ?_, ⟨2, 0, by omega, n1, n2, Or.inl n3, Or.inl n4⟩⟩
  · exact ⟨(0, fun _ => 0), ⟨by show 0 ≤ 1000; omega, fun i hi => absurd hi (Nat.not_lt_zero i)⟩, ⟨zc 1 1 (by omega), fun i hi => absurd hi (Nat.not_lt_zero i)⟩, ⟨by rw [g3]; rfl, fun i hi => absurd hi (Nat.not_lt_zero i)⟩⟩
  · rw [n3, n1, n2] at z; exact absurd z (by decide)
  · rw [n4, n1] at z; exact absurd z (by decide)
  · exact ⟨⟨0, 0, by omega, by omega, ⟨zc 39 13 (by omega), fun i hi => ⟨0, by omega, zc 43 i (by omega)⟩, fun i hi => ⟨0, by omega, zc 40 i (by omega)⟩⟩, ⟨by rw [g3]; rfl, fun i hi => ⟨0, by omega, z0 133 i (by omega)⟩⟩⟩, fun lv hlv => ⟨0, by omega, z0 135 lv (by omega), fun i hi => ⟨0, by omega, z0 134 _ (by omega)⟩⟩⟩
