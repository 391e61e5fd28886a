/-! person() -/
section
variable {F N : Nat}
def PsS : List Nat := [52, 53, 54, 136, 137, 138]
def PsK : List (Nat × Nat) := [(51, 12), (51, 15), (103, 0), (103, 57)]
theorem P_person {h : PH} (hF : F ≤ 6) (C : HC F h) (M : HM F h) (P : PlI F h) (a b c : Int32) : ∃ r h1 h2, F_X11_person a b c h = some (r, h1) ∧ F_X12_person a b c h1 = some (r, h2) ∧ PlI F h2 ∧ (h2.1 51 15 = h.1 51 15 + 1 ∨ fq [] [(103, 0)] h h2) ∧ fq PsS PsK h h2 := by
  have ff : fq [] [(103, 0)] h (hs h 103 0 0) := fq_s fq_0 (Or.inr (by decide))
  have M0 : HM F (hs h 103 0 0) := by unfold HM; simp [hs_1]; exact M
  have no : F_X11_person a b c h = some (-1, h) → F_X12_person a b c h = some (-1, hs h 103 0 0) → ∃ r h1 h2, F_X11_person a b c h = some (r, h1) ∧ F_X12_person a b c h1 = some (r, h2) ∧ PlI F h2 ∧ (h2.1 51 15 = h.1 51 15 + 1 ∨ fq [] [(103, 0)] h h2) ∧ fq PsS PsK h h2 := fun y1 y2 => ⟨-1, h, _, y1, y2, PlI_0 P, Or.inr ff, fq_w ff (by simp) (by simp [PsK])⟩
  have cc : F_X11_person a b c h = if wth a 0 300 = true then (if isF F b = true then (if isF F c = true then (if b = c then some ((-1 : Int32), h) else bI (F_X6_addPerson a b c h) (fun r10 h11 => some (r10, h11))) else some ((-1 : Int32), h)) else some ((-1 : Int32), h)) else some ((-1 : Int32), h) := by
    unfold F_X11_person
    rw [wth_if, isFloorC_x C, bI_s, isFloorC_x C, bI_s]
    by_cases g1 : isF F b = true
    · rw [if_pos g1, if_neg one10, if_pos g1]
      by_cases g2 : isF F c = true
      · rw [if_pos g2, if_neg one10, if_pos g2]
      · rw [if_neg g2, if_pos rfl, if_neg g2]
    · rw [if_neg g1, if_pos rfl, if_neg g1]
  obtain ⟨⟨c0, z0', d0, p0, pc⟩, ⟨n, tm, fm, to, pp⟩, ⟨n2, t2, c2, k2, ph⟩, ⟨f, pf⟩⟩ := id P
  have pp' := pp
  obtain ⟨q0, q1, q2, q3⟩ := pp'
  have mm : ∀ k : PH, HM F (hs k 103 0 0) → k.1 103 57 = nI n → F_X12_person a b c k = if wth a 0 300 = true then (if isF F b = true then (if isF F c = true then (if b = c then some ((-1 : Int32), hs k 103 0 0) else if n = 24 then some ((-1 : Int32), hs k 103 0 0) else some (nI n, hs (hs (hs (hs (hs k 103 0 0) 136 n a) 137 n b) 138 n c) 103 57 (nI (n + 1)))) else some ((-1 : Int32), hs k 103 0 0)) else some ((-1 : Int32), hs k 103 0 0)) else some ((-1 : Int32), hs k 103 0 0) := by
    intro k hk h57
    unfold F_X12_person
    rw [hb_e, within_x, bI_s]
    by_cases g1 : wth a 0 300 = true
    · rw [if_pos g1, if_neg one10, if_pos g1, isFloorM_x hk, bI_s]
      by_cases g2 : isF F b = true
      · rw [if_pos g2, if_neg one10, if_pos g2, isFloorM_x hk, bI_s]
        by_cases g3 : isF F c = true
        · rw [if_pos g3, if_neg one10, if_pos g3]
          by_cases g4 : b = c
          · rw [if_pos g4, if_pos g4]
          · rw [if_neg g4, if_neg g4, show (hs k 103 0 0).1 103 57 = nI n by simp [hs_1]; exact h57]
            by_cases g5 : n = 24
            · rw [if_pos (by rw [g5]; rfl), if_pos g5]
            · rw [if_neg (fun z => g5 ((n_eq_l 24 (by omega) (by omega)).mp z)), if_neg g5, if_pos (nI_in0 (by omega) (by omega)), nI_clamp (by omega), hb_e, show (hs (hs k 103 0 0) 136 n a).1 103 57 = nI n by simp [hs_1]; exact h57, if_pos (nI_in0 (by omega) (by omega)), nI_clamp (by omega), hb_e, show (hs (hs (hs k 103 0 0) 136 n a) 137 n b).1 103 57 = nI n by simp [hs_1]; exact h57, if_pos (nI_in0 (by omega) (by omega)), nI_clamp (by omega), hb_e, hb_e, show (hs (hs (hs (hs k 103 0 0) 136 n a) 137 n b) 138 n c).1 103 57 = nI n by simp [hs_1]; exact h57, nI_1]
              simp [hs_1]
              exact nI_pred n
        · rw [if_neg g3, if_pos rfl, if_neg g3]
      · rw [if_neg g2, if_pos rfl, if_neg g2]
    · rw [if_neg g1, if_pos rfl, if_neg g1]
  by_cases g1 : wth a 0 300 = true
  · by_cases g2 : isF F b = true
    · by_cases g3 : isF F c = true
      · by_cases g4 : b = c
        · exact no (by rw [cc, if_pos g1, if_pos g2, if_pos g3, if_pos g4]) (by rw [mm h M0 q2, if_pos g1, if_pos g2, if_pos g3, if_pos g4])
        · by_cases g5 : n = 24
          · refine no ?_ (by rw [mm h M0 q2, if_pos g1, if_pos g2, if_pos g3, if_neg g4, if_pos g5])
            rw [cc, if_pos g1, if_pos g2, if_pos g3, if_neg g4]
            unfold F_X6_addPerson
            rw [q1, g5, if_neg (by decide)]
            rfl
          · have hn : n < 24 := by omega
            have ca : F_X6_addPerson a b c h = some (nI n, hs (hs (hs (hs (hs h 52 n a) 53 n b) 54 n c) 51 12 (nI (n + 1))) 51 15 (h.1 51 15 + 1)) := by
              unfold F_X6_addPerson
              rw [q1, if_pos ((n_lt_l 24 (by omega) (by omega)).mpr hn), if_pos (nI_in0 hn (by omega)), nI_clamp (by omega), hb_e, show (hs h 52 n a).1 51 12 = nI n by simp [hs_1]; exact q1, if_pos (nI_in0 hn (by omega)), nI_clamp (by omega), hb_e, show (hs (hs h 52 n a) 53 n b).1 51 12 = nI n by simp [hs_1]; exact q1, if_pos (nI_in0 hn (by omega)), nI_clamp (by omega), hb_e, hb_e, show (hs (hs (hs h 52 n a) 53 n b) 54 n c).1 51 12 = nI n by simp [hs_1]; exact q1, nI_1, hb_e]
              simp [hs_1]
              exact nI_pred n
            generalize hk1 : hs (hs (hs (hs (hs h 52 n a) 53 n b) 54 n c) 51 12 (nI (n + 1))) 51 15 (h.1 51 15 + 1) = h1 at ca
            have f1 : fq PsS PsK h h1 := by rw [← hk1]; exact fq_s (fq_s (fq_s (fq_s (fq_s fq_0 (Or.inl (by decide))) (Or.inl (by decide))) (Or.inl (by decide))) (Or.inr (by decide))) (Or.inr (by decide))
            have hi1 : ∀ x y, 103 ≤ x → h1.1 x y = h.1 x y := fun x y z => by rw [← hk1, hs_1, if_neg (by omega), hs_1, if_neg (by omega), hs_1, if_neg (by omega), hs_1, if_neg (by omega), hs_1, if_neg (by omega)]
            have e2 := mm h1 (by unfold HM; simp [hs_1]; rw [hi1 103 1 (by omega)]; exact M) (by rw [hi1 103 57 (by omega)]; exact q2)
            rw [if_pos g1, if_pos g2, if_pos g3, if_neg g4, if_neg g5] at e2
            generalize hk2 : hs (hs (hs (hs (hs h1 103 0 0) 136 n a) 137 n b) 138 n c) 103 57 (nI (n + 1)) = h2 at e2
            have f2 : fq PsS PsK h h2 := by rw [← hk2]; exact fq_s (fq_s (fq_s (fq_s (fq_s f1 (Or.inr (by decide))) (Or.inl (by decide))) (Or.inl (by decide))) (Or.inl (by decide))) (Or.inr (by decide))
            have lo2 : ∀ x y, x < 103 → h2.1 x y = h1.1 x y := fun x y z => by rw [← hk2, hs_1, if_neg (by omega), hs_1, if_neg (by omega), hs_1, if_neg (by omega), hs_1, if_neg (by omega), hs_1, if_neg (by omega)]
            obtain ⟨x1, -, u2, rfl⟩ := wth_ab (i := 0) (k := 300) (by omega) g1 (by omega)
            obtain ⟨x2, u3, rfl⟩ := isF_n g2 (by omega)
            obtain ⟨x3, u4, rfl⟩ := isF_n g3 (by omega)
            refine ⟨nI n, h1, h2, by rw [cc, if_pos g1, if_pos g2, if_pos g3, if_neg g4, ca]; rfl, e2, ⟨⟨c0, z0', d0, p0, PlC_q pc (fun x y z => f2 x y (by simp [PsS]; omega) (by simp [PsK]; omega))⟩, ⟨n + 1, fun i => if i = n then x1 else tm i, fun i => if i = n then x2 else fm i, fun i => if i = n then x3 else to i, by omega, ?_, ?_, fun i hi => ?_⟩, ⟨n2, t2, c2, k2, PlH_q ph (fun x y z => f2 x y (by simp [PsS]; omega) (by simp [PsK]; omega))⟩, ⟨f, PlF_q pf (fun x y z => f2 x y (by simp [PsS]; omega) (by simp [PsK]; omega))⟩⟩, Or.inl ?_, f2⟩
            · rw [lo2 51 12 (by omega), ← hk1]; simp [hs_1]
            · rw [← hk2]; simp [hs_1]
            · rw [lo2 52 i (by omega), lo2 53 i (by omega), lo2 54 i (by omega), ← hk2, ← hk1]
              by_cases e : i = n
              · subst e
                simp [hs_1]
                exact ⟨u2, u3, u4, fun z => g4 (by rw [z])⟩
              · simp [hs_1, e]
                exact q3 i (by omega)
            · rw [lo2 51 15 (by omega), ← hk1]; simp [hs_1]
      · exact no (by rw [cc, if_pos g1, if_pos g2, if_neg g3]) (by rw [mm h M0 q2, if_pos g1, if_pos g2, if_neg g3])
    · exact no (by rw [cc, if_pos g1, if_neg g2]) (by rw [mm h M0 q2, if_pos g1, if_neg g2])
  · exact no (by rw [cc, if_neg g1]) (by rw [mm h M0 q2, if_neg g1])
end
