/-! hold() -/
section
variable {F N : Nat}
def HoS : List Nat := [55, 56, 57, 139, 140, 141]
def HoK : List (Nat × Nat) := [(51, 13), (51, 15), (103, 0), (103, 61)]
theorem wth_lt {a : Int32} {k : Nat} {lo : Int32} (hk : k < 2147483647) (hlo : 0 ≤ lo) {ρ : Type} {x y : ρ} : (if a < lo then x else if nI (k + 1) ≤ a then x else y) = if wth a lo (nI k) = true then y else x := by
  rw [← wth_if]
  by_cases h1 : a < lo
  · rw [if_pos h1, if_pos h1]
  · rw [if_neg h1, if_neg h1]
    obtain ⟨p, hp, rfl⟩ := nI_of (x := a) (Int32.not_lt.mpr (Int32.le_trans hlo (Int32.not_lt.mp h1)))
    by_cases h2 : k + 1 ≤ p
    · rw [if_pos (nI_le h2 hp), if_pos (nI_lt (by omega) hp)]
    · rw [if_neg (nI_ge (by omega) (by omega)), if_neg (nI_nlt (by omega) (by omega))]
theorem P_hold {h : PH} (P : PlI F h) (a b c : Int32) : ∃ r h1 h2, F_X11_hold a b c h = some (r, h1) ∧ F_X12_hold a b c h1 = some (r, h2) ∧ PlI F h2 ∧ (h2.1 51 15 = h.1 51 15 + 1 ∨ fq [] [(103, 0)] h h2) ∧ fq HoS HoK h h2 := by
  have ff : fq [] [(103, 0)] h (hs h 103 0 0) := fq_s fq_0 (Or.inr (by decide))
  have no : F_X11_hold a b c h = some (0, h) → F_X12_hold a b c h = some (0, hs h 103 0 0) → ∃ r h1 h2, F_X11_hold a b c h = some (r, h1) ∧ F_X12_hold a b c h1 = some (r, h2) ∧ PlI F h2 ∧ (h2.1 51 15 = h.1 51 15 + 1 ∨ fq [] [(103, 0)] h h2) ∧ fq HoS HoK h h2 := fun y1 y2 => ⟨0, h, _, y1, y2, PlI_0 P, Or.inr ff, fq_w ff (by simp) (by simp [HoK])⟩
  have cc : F_X11_hold a b c h = if wth a 0 899 = true then (if wth b 0 1 = true then (if wth c 1 60 = true then bI (F_X6_addHold a b c h) (fun r7 h8 => if zb r7 = true then some (r7, h8) else none) else some ((0 : Int32), h)) else some ((0 : Int32), h)) else some ((0 : Int32), h) := by
    unfold F_X11_hold
    have w1 : ∀ (x y : Option (Int32 × PH)), (if a < 0 then x else if (900 : Int32) ≤ a then x else y) = if wth a 0 899 = true then y else x := fun x y => wth_lt (k := 899) (by omega) (by decide)
    have w2 : ∀ (x y : Option (Int32 × PH)), (if b < 0 then x else if (2 : Int32) ≤ b then x else y) = if wth b 0 1 = true then y else x := fun x y => wth_lt (k := 1) (by omega) (by decide)
    have w3 : ∀ (x y : Option (Int32 × PH)), (if c < 1 then x else if c ≤ 60 then y else x) = if wth c 1 60 = true then y else x := fun x y => by
      rw [← wth_if]
      by_cases h1 : c < 1
      · rw [if_pos h1, if_pos h1]
      · rw [if_neg h1, if_neg h1]
        by_cases h2 : c ≤ 60
        · rw [if_pos h2, if_neg (Int32.not_lt.mpr h2)]
        · rw [if_neg h2, if_pos (Int32.not_le.mp h2)]
    rw [w1, w2, w3]
  obtain ⟨⟨c0, z0', d0, p0, pc⟩, ⟨n2, t2, f2, o2, pp⟩, ⟨n, tm, cr, tk, ph⟩, ⟨f, pf⟩⟩ := id P
  have ph' := ph
  obtain ⟨q0, q1, q2, q3⟩ := ph'
  have mm : ∀ k : PH, k.1 103 61 = nI n → F_X12_hold a b c k = if wth a 0 899 = true then (if wth b 0 1 = true then (if wth c 1 60 = true then (if n = 8 then some ((0 : Int32), hs k 103 0 0) else some ((1 : Int32), hs (hs (hs (hs (hs k 103 0 0) 139 n a) 140 n b) 141 n c) 103 61 (nI (n + 1)))) else some ((0 : Int32), hs k 103 0 0)) else some ((0 : Int32), hs k 103 0 0)) else some ((0 : Int32), hs k 103 0 0) := by
    intro k h61
    unfold F_X12_hold
    rw [hb_e, within_x, bI_s]
    by_cases g1 : wth a 0 899 = true
    · rw [if_pos g1, if_neg one10, if_pos g1, within_x, bI_s]
      by_cases g2 : wth b 0 1 = true
      · rw [if_pos g2, if_neg one10, if_pos g2, within_x, bI_s]
        by_cases g3 : wth c 1 60 = true
        · rw [if_pos g3, if_neg one10, if_pos g3, show (hs k 103 0 0).1 103 61 = nI n by simp [hs_1]; exact h61]
          by_cases g5 : n = 8
          · rw [if_pos (by rw [g5]; rfl), if_pos g5]
          · rw [if_neg (fun z => g5 ((n_eq_l 8 (by omega) (by omega)).mp z)), if_neg g5, if_pos (nI_in0 (by omega) (by omega)), nI_clamp (by omega), hb_e, show (hs (hs k 103 0 0) 139 n a).1 103 61 = nI n by simp [hs_1]; exact h61, if_pos (nI_in0 (by omega) (by omega)), nI_clamp (by omega), hb_e, show (hs (hs (hs k 103 0 0) 139 n a) 140 n b).1 103 61 = nI n by simp [hs_1]; exact h61, if_pos (nI_in0 (by omega) (by omega)), nI_clamp (by omega), hb_e, hb_e, show (hs (hs (hs (hs k 103 0 0) 139 n a) 140 n b) 141 n c).1 103 61 = nI n by simp [hs_1]; exact h61, nI_1]
        · rw [if_neg g3, if_pos rfl, if_neg g3]
      · rw [if_neg g2, if_pos rfl, if_neg g2]
    · rw [if_neg g1, if_pos rfl, if_neg g1]
  by_cases g1 : wth a 0 899 = true
  · by_cases g2 : wth b 0 1 = true
    · by_cases g3 : wth c 1 60 = true
      · by_cases g5 : n = 8
        · refine no ?_ (by rw [mm h q2, if_pos g1, if_pos g2, if_pos g3, if_pos g5])
          rw [cc, if_pos g1, if_pos g2, if_pos g3]
          unfold F_X6_addHold
          rw [q1, g5, if_neg (by decide), bI_s, if_pos (by decide)]
        · have hn : n < 8 := by omega
          have ca : F_X6_addHold a b c h = some (1, hs (hs (hs (hs (hs h 55 n a) 56 n b) 57 n c) 51 13 (nI (n + 1))) 51 15 (h.1 51 15 + 1)) := by
            unfold F_X6_addHold
            rw [q1, if_pos ((n_lt_l 8 (by omega) (by omega)).mpr hn), if_pos (nI_in0 hn (by omega)), nI_clamp (by omega), hb_e, show (hs h 55 n a).1 51 13 = nI n by simp [hs_1]; exact q1, if_pos (nI_in0 hn (by omega)), nI_clamp (by omega), hb_e, show (hs (hs h 55 n a) 56 n b).1 51 13 = nI n by simp [hs_1]; exact q1, if_pos (nI_in0 hn (by omega)), nI_clamp (by omega), hb_e, hb_e, show (hs (hs (hs h 55 n a) 56 n b) 57 n c).1 51 13 = nI n by simp [hs_1]; exact q1, nI_1, hb_e]
            simp [hs_1]
          generalize hk1 : hs (hs (hs (hs (hs h 55 n a) 56 n b) 57 n c) 51 13 (nI (n + 1))) 51 15 (h.1 51 15 + 1) = h1 at ca
          have f1 : fq HoS HoK h h1 := by rw [← hk1]; exact fq_s (fq_s (fq_s (fq_s (fq_s fq_0 (Or.inl (by decide))) (Or.inl (by decide))) (Or.inl (by decide))) (Or.inr (by decide))) (Or.inr (by decide))
          have hi1 : ∀ x y, 103 ≤ x → h1.1 x y = h.1 x y := fun x y z => by rw [← hk1, hs_1, if_neg (by omega), hs_1, if_neg (by omega), hs_1, if_neg (by omega), hs_1, if_neg (by omega), hs_1, if_neg (by omega)]
          have e2 := mm h1 (by rw [hi1 103 61 (by omega)]; exact q2)
          rw [if_pos g1, if_pos g2, if_pos g3, if_neg g5] at e2
          generalize hk2 : hs (hs (hs (hs (hs h1 103 0 0) 139 n a) 140 n b) 141 n c) 103 61 (nI (n + 1)) = h2 at e2
          have f3 : fq HoS HoK h h2 := by rw [← hk2]; exact fq_s (fq_s (fq_s (fq_s (fq_s f1 (Or.inr (by decide))) (Or.inl (by decide))) (Or.inl (by decide))) (Or.inl (by decide))) (Or.inr (by decide))
          have lo2 : ∀ x y, x < 103 → h2.1 x y = h1.1 x y := fun x y z => by rw [← hk2, hs_1, if_neg (by omega), hs_1, if_neg (by omega), hs_1, if_neg (by omega), hs_1, if_neg (by omega), hs_1, if_neg (by omega)]
          obtain ⟨x1, -, u2, rfl⟩ := wth_ab (i := 0) (k := 899) (by omega) g1 (by omega)
          obtain ⟨x2, -, u3, rfl⟩ := wth_ab (i := 0) (k := 1) (by omega) g2 (by omega)
          obtain ⟨x3, u5, u4, rfl⟩ := wth_ab (i := 1) (k := 60) (by omega) g3 (by omega)
          refine ⟨1, h1, h2, by rw [cc, if_pos g1, if_pos g2, if_pos g3, ca]; rfl, e2, ⟨⟨c0, z0', d0, p0, PlC_q pc (fun x y z => f3 x y (by simp [HoS]; omega) (by simp [HoK]; omega))⟩, ⟨n2, t2, f2, o2, PlP_q pp (fun x y z => f3 x y (by simp [HoS]; omega) (by simp [HoK]; omega))⟩, ⟨n + 1, fun i => if i = n then x1 else tm i, fun i => if i = n then x2 else cr i, fun i => if i = n then x3 else tk i, by omega, ?_, ?_, fun i hi => ?_⟩, ⟨f, PlF_q pf (fun x y z => f3 x y (by simp [HoS]; omega) (by simp [HoK]; omega))⟩⟩, Or.inl ?_, f3⟩
          · rw [lo2 51 13 (by omega), ← hk1]; simp [hs_1]
          · rw [← hk2]; simp [hs_1]
          · rw [lo2 55 i (by omega), lo2 56 i (by omega), lo2 57 i (by omega), ← hk2, ← hk1]
            by_cases e : i = n
            · subst e
              simp [hs_1]
              omega
            · simp [hs_1, e]
              exact q3 i (by omega)
          · rw [lo2 51 15 (by omega), ← hk1]; simp [hs_1]
      · exact no (by rw [cc, if_pos g1, if_pos g2, if_neg g3]) (by rw [mm h q2, if_pos g1, if_pos g2, if_neg g3])
    · exact no (by rw [cc, if_pos g1, if_neg g2]) (by rw [mm h q2, if_pos g1, if_neg g2])
  · exact no (by rw [cc, if_neg g1]) (by rw [mm h q2, if_neg g1])
end
