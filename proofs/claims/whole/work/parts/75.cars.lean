/-! cars(), person(), hold() -/
section
variable {F N : Nat}
def CaK : List (Nat × Nat) := [(51, 8), (51, 9), (51, 10), (51, 11), (51, 15), (103, 0), (103, 53), (103, 54), (103, 55), (103, 56)]
theorem PlI_0 {h : PH} (P : PlI F h) : PlI F (hs h 103 0 0) := by
  have ff : fq [] [(103, 0)] h (hs h 103 0 0) := fq_s fq_0 (Or.inr (by decide))
  obtain ⟨⟨c, z, d, p, pc⟩, ⟨n, tm, fm, to, pp⟩, ⟨n2, t2, c2, k2, ph⟩, ⟨f, pf⟩⟩ := P
  exact ⟨⟨c, z, d, p, PlC_q pc (fun a b q => ff a b (by simp) (by simp; omega))⟩, ⟨n, tm, fm, to, PlP_q pp (fun a b q => ff a b (by simp) (by simp; omega))⟩, ⟨n2, t2, c2, k2, PlH_q ph (fun a b q => ff a b (by simp) (by simp; omega))⟩, ⟨f, PlF_q pf (fun a b q => ff a b (by simp) (by simp; omega))⟩⟩
theorem wth_ab {a : Int32} {i k : Nat} (hk : k < 2147483648) (h : wth a (nI i) (nI k) = true) (hi : i ≤ k) : ∃ p, i ≤ p ∧ p ≤ k ∧ a = nI p := by
  obtain ⟨h1, h2⟩ := of_decide_eq_true h
  obtain ⟨p, hp, rfl⟩ := nI_of (x := a) (Int32.not_lt.mpr (Int32.le_trans (nI_pos' (n := i) (by omega)) h1))
  exact ⟨p, (nI_leI (by omega) hp).mp h1, (nI_leI hp (by omega)).mp h2, rfl⟩
theorem wth_if {a lo hi : Int32} {ρ : Type} {x y : ρ} : (if a < lo then x else if hi < a then x else y) = if wth a lo hi = true then y else x := by
  unfold wth
  by_cases h1 : a < lo
  · rw [if_pos h1, if_neg (by simp; intro q; exact absurd h1 (Int32.not_lt.mpr q))]
  · rw [if_neg h1]
    by_cases h2 : hi < a
    · rw [if_pos h2, if_neg (by simp; intro _; exact h2)]
    · rw [if_neg h2, if_pos (by simp; exact ⟨Int32.not_lt.mp h1, Int32.not_lt.mp h2⟩)]
theorem P_cars {h : PH} (hF : F ≤ 6) (C : HC F h) (M : HM F h) (P : PlI F h) (a b c d : Int32) : ∃ r h1 h2, F_X11_cars a b c d h = some (r, h1) ∧ F_X12_cars a b c d h1 = some (r, h2) ∧ PlI F h2 ∧ ((r = 1 ∧ h2.1 51 15 = h.1 51 15 + 1) ∨ (r = 0 ∧ fq [] [(103, 0)] h h2)) ∧ fq [] CaK h h2 := by
  have ff : fq [] [(103, 0)] h (hs h 103 0 0) := fq_s fq_0 (Or.inr (by decide))
  have M0 : HM F (hs h 103 0 0) := by unfold HM; simp [hs_1]; exact M
  have cc : F_X11_cars a b c d h = if wth a 1 2 = true then (if wth b 1 8 = true then (if wth c 0 9 = true then (if isF F d = true then bV (F_X6_setCars a b c d h) (fun h11 => some ((1 : Int32), h11)) else some ((0 : Int32), h)) else some ((0 : Int32), h)) else some ((0 : Int32), h)) else some ((0 : Int32), h) := by
    unfold F_X11_cars
    rw [isFloorC_x C, bI_s, wth_if, wth_if, wth_if]
    by_cases g : isF F d = true
    · rw [if_pos g, if_pos g, if_neg one10]
    · rw [if_neg g, if_neg g, if_pos rfl]
  have mm : ∀ k : PH, HM F (hs k 103 0 0) → F_X12_cars a b c d k = if wth a 1 2 = true then (if wth b 1 8 = true then (if wth c 0 9 = true then (if isF F d = true then some ((1 : Int32), hs (hs (hs (hs (hs k 103 0 0) 103 53 a) 103 54 b) 103 55 c) 103 56 d) else some ((0 : Int32), hs k 103 0 0)) else some ((0 : Int32), hs k 103 0 0)) else some ((0 : Int32), hs k 103 0 0)) else some ((0 : Int32), hs k 103 0 0) := by
    intro k hk
    unfold F_X12_cars
    rw [hb_e, within_x, bI_s]
    by_cases g1 : wth a 1 2 = true
    · rw [if_pos g1, if_neg one10, if_pos g1, within_x, bI_s]
      by_cases g2 : wth b 1 8 = true
      · rw [if_pos g2, if_neg one10, if_pos g2, within_x, bI_s]
        by_cases g3 : wth c 0 9 = true
        · rw [if_pos g3, if_neg one10, if_pos g3, isFloorM_x hk, bI_s]
          by_cases g4 : isF F d = true
          · rw [if_pos g4, if_neg one10, if_pos g4]; rfl
          · rw [if_neg g4, if_pos rfl, if_neg g4]
        · rw [if_neg g3, if_pos rfl, if_neg g3]
      · rw [if_neg g2, if_pos rfl, if_neg g2]
    · rw [if_neg g1, if_pos rfl, if_neg g1]
  have no : F_X11_cars a b c d h = some (0, h) → F_X12_cars a b c d h = some (0, hs h 103 0 0) → ∃ r h1 h2, F_X11_cars a b c d h = some (r, h1) ∧ F_X12_cars a b c d h1 = some (r, h2) ∧ PlI F h2 ∧ ((r = 1 ∧ h2.1 51 15 = h.1 51 15 + 1) ∨ (r = 0 ∧ fq [] [(103, 0)] h h2)) ∧ fq [] CaK h h2 := fun y1 y2 => ⟨0, h, _, y1, y2, PlI_0 P, Or.inr ⟨rfl, ff⟩, fq_w ff (by simp) (by simp [CaK])⟩
  by_cases g1 : wth a 1 2 = true
  · by_cases g2 : wth b 1 8 = true
    · by_cases g3 : wth c 0 9 = true
      · by_cases g4 : isF F d = true
        · obtain ⟨-, ⟨n, tm, fm, to, pp⟩, ⟨n2, t2, c2, k2, ph⟩, ⟨f, pf⟩⟩ := id P
          obtain ⟨⟨c0, z0', d0, p0, pc⟩, -⟩ := P
          have key : ∃ h1 h2, F_X11_cars a b c d h = some (1, h1) ∧ F_X12_cars a b c d h1 = some (1, h2) ∧ fq [] CaK h h2 ∧ h2.1 51 15 = h.1 51 15 + 1 ∧ h2.1 51 8 = a ∧ h2.1 51 9 = b ∧ h2.1 51 10 = c ∧ h2.1 51 11 = d ∧ h2.1 103 53 = a ∧ h2.1 103 54 = b ∧ h2.1 103 55 = c ∧ h2.1 103 56 = d := by
            refine ⟨_, _, by rw [cc, if_pos g1, if_pos g2, if_pos g3, if_pos g4]; rfl, by rw [mm _ (by unfold HM; simp [hs_1]; exact M), if_pos g1, if_pos g2, if_pos g3, if_pos g4], ?_, ?_, ?_, ?_, ?_, ?_, ?_, ?_, ?_, ?_⟩
            · exact fq_s (fq_s (fq_s (fq_s (fq_s (fq_s (fq_s (fq_s (fq_s (fq_s fq_0 (Or.inr (by decide))) (Or.inr (by decide))) (Or.inr (by decide))) (Or.inr (by decide))) (Or.inr (by decide))) (Or.inr (by decide))) (Or.inr (by decide))) (Or.inr (by decide))) (Or.inr (by decide))) (Or.inr (by decide))
            all_goals simp [hs_1]
          obtain ⟨h1, h2, e1, e2, fk, b0, b1, b2, b3, b4, b5, b6, b7, b8⟩ := key
          obtain ⟨x1, u1, u2, rfl⟩ := wth_ab (i := 1) (k := 2) (by omega) g1 (by omega)
          obtain ⟨x2, u3, u4, rfl⟩ := wth_ab (i := 1) (k := 8) (by omega) g2 (by omega)
          obtain ⟨x3, u5, u6, rfl⟩ := wth_ab (i := 0) (k := 9) (by omega) g3 (by omega)
          obtain ⟨x4, u7, rfl⟩ := isF_n g4 (by omega)
          exact ⟨1, h1, h2, e1, e2, ⟨⟨x1, x2, x3, x4, ⟨u1, u2, u3, u4, u6, u7⟩, by rw [fk 51 7 (by simp) (by simp [CaK])]; exact pc.2.1, b1, b2, b3, b4, b5, b6, b7, b8⟩, ⟨n, tm, fm, to, PlP_q pp (fun a b q => fk a b (by simp) (by simp [CaK]; omega))⟩, ⟨n2, t2, c2, k2, PlH_q ph (fun a b q => fk a b (by simp) (by simp [CaK]; omega))⟩, ⟨f, PlF_q pf (fun a b q => fk a b (by simp) (by simp [CaK]; omega))⟩⟩, Or.inl ⟨rfl, b0⟩, fk⟩
        · exact no (by rw [cc, if_pos g1, if_pos g2, if_pos g3, if_neg g4]) (by rw [mm h M0, if_pos g1, if_pos g2, if_pos g3, if_neg g4])
      · exact no (by rw [cc, if_pos g1, if_pos g2, if_neg g3]) (by rw [mm h M0, if_pos g1, if_pos g2, if_neg g3])
    · exact no (by rw [cc, if_pos g1, if_neg g2]) (by rw [mm h M0, if_pos g1, if_neg g2])
  · exact no (by rw [cc, if_neg g1]) (by rw [mm h M0, if_neg g1])
end
