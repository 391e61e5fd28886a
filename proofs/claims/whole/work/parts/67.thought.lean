/-! thought() -/
section
variable {F N nv : Nat} {T : Nat → Int32 → Bool} {q : List ((Nat × Nat × Nat) × Nat × Nat × Nat)}
theorem sum_x {D : List Nat} {h hm : PH} {x1 : Int32} (hF : F ≤ 6) (G : QG F q) (A : AC F T q h) (H : HdD q.length D) (HC' : HdC D h) (HM' : HdM q 0 0 D hm) : ∀ (k k2 i : Nat) (x2 x3 x4 x5 : Int32), i ≤ D.length → 3072 < k + i → 3072 < k2 + i → x2 &&& 255 = x2 → ∃ a, F_X3_summary_b15 N k x1 x2 x3 x4 x5 (nI i) h = some (a, h) ∧ F_X12_thought_b62 N k2 x1 x2 x3 x4 x5 (nI i) hm = some (a, hm) := by
  have ql := QD_le G.1 hF
  have dl := HdD_le H
  intro k
  induction k with
  | zero => intro k2 i x2 x3 x4 x5 h1 h2; omega
  | succ k ih =>
    intro k2 i x2 x3 x4 x5 h1 h2 h3 hx
    obtain ⟨k2, rfl⟩ : ∃ m, k2 = m + 1 := ⟨k2 - 1, by omega⟩
    rw [F_X3_summary_b15, F_X12_thought_b62, HC'.1, if_pos (show inb (0 : Int32) 4 = true by decide), show (0 : Int32).toNatClampNeg = 0 from rfl, HM'.1]
    by_cases g : D.length ≤ i
    · rw [if_pos (nI_le g (by omega)), if_pos (nI_le g (by omega))]
      unfold F_X3_summary_b84 F_X12_thought_b136
      by_cases c1 : x1 = 1
      · rw [if_pos c1, if_pos c1]; exact ⟨_, rfl, rfl⟩
      · rw [if_neg c1, if_neg c1]
        by_cases c2 : x1 = 2
        · rw [if_pos c2, if_pos c2]; exact ⟨_, rfl, rfl⟩
        · rw [if_neg c2, if_neg c2]
          by_cases c3 : x1 = 3
          · rw [if_pos c3, if_pos c3]; exact ⟨_, rfl, rfl⟩
          · rw [if_neg c3, if_neg c3]; exact ⟨_, rfl, rfl⟩
    · have hi : i < D.length := by omega
      have hd := H.1 i hi
      have o := G.1.1 _ hd
      have m1 := HM'.2 i hi
      rw [Nat.zero_add] at m1
      rw [if_neg (nI_ge hi (by omega)), if_neg (nI_ge hi (by omega)), if_pos (nI_in0 (by omega) (by omega)), if_pos (nI_in0 (by omega) (by omega)), nI_clamp (by omega), HC'.2 i hi, stateAt_x hF G A hd, bI_s, m1]
      simp only [ib_e]
      rw [relC o hF, relM o hF, floorC o hF, bI_s, doorC o hF, bI_s, floorM o hF, bI_s, openM o hF, bI_s, nI_1]
      have e1 : x2 &&& nI (csN (qS q (D.getD i 0))) = x2 &&& nI (qS q (D.getD i 0)).1 := by
        rw [← relC o hF, ← Int32.and_assoc, Int32.and_assoc, Int32.and_comm _ (255 : Int32), ← Int32.and_assoc, hx]
      have e2 : (x2 &&& nI (qS q (D.getD i 0)).1) &&& 255 = x2 &&& nI (qS q (D.getD i 0)).1 := by
        rw [Int32.and_assoc, Int32.and_comm _ (255 : Int32), ← Int32.and_assoc, hx]
      rw [e1]
      unfold F_X12_thought_b127
      simp only [ib_e]
      rw [nI_1]
      have e3 : ∀ (P : Int32 → Option (Int32 × PH)), (if nI (qS q (D.getD i 0)).2.2 = 0 then P 1 else P 2) = P ((1 : Int32) <<< (nI (qS q (D.getD i 0)).2.2 &&& 31)) := by
        intro P
        have := o.2.2
        by_cases z : (qS q (D.getD i 0)).2.2 = 0
        · rw [z, if_pos (by decide)]; rfl
        · rw [show (qS q (D.getD i 0)).2.2 = 1 by omega, if_neg (by decide)]; rfl
      rw [e3 (fun y => F_X12_thought_b62 N k2 x1 (x2 &&& nI (qS q (D.getD i 0)).1) (x3 ||| nI (qS q (D.getD i 0)).1) (x4 ||| (1 : Int32) <<< (nI (qS q (D.getD i 0)).2.1 &&& 31)) (x5 ||| y) (nI (i + 1)) hm)]
      exact ih k2 (i + 1) _ _ _ _ (by omega) (by omega) (by omega) e2
theorem Gs_0 {h : PH} (hF0 : 0 < F) (hF : F ≤ 6) (S : GsI F T h) : GsI F T (hs h 103 0 0) := GsI_q hF hF0 S (fun a b z => by
  unfold GsP at z
  rw [hs_1]
  by_cases y : a = 103
  · rw [if_pos y, if_neg (by omega)]
  · rw [if_neg y])
theorem P_thought {h : PH} (hN : 5000 ≤ N) (hF0 : 0 < F) (hF : F ≤ 6) (S : GsI F T h) (a : Int32) : ∃ r h1 h2, F_X11_thought N a h = some (r, h1) ∧ F_X12_thought N a h1 = some (r, h2) ∧ GsI F T h2 ∧ fq [] [(103, 0)] h h2 := by
  have G := qAll_G (T := T) hF0
  have ql := QD_le G.1 hF
  have ff : fq [] [(103, 0)] h (hs h 103 0 0) := fq_s fq_0 (Or.inr (by decide))
  have two : (∃ r, F_X11_thought N a h = some (r, h) ∧ F_X12_thought N a h = some (r, hs h 103 0 0)) → ∃ r h1 h2, F_X11_thought N a h = some (r, h1) ∧ F_X12_thought N a h1 = some (r, h2) ∧ GsI F T h2 ∧ fq [] [(103, 0)] h h2 := fun ⟨r, y1, y2⟩ => ⟨r, h, _, y1, y2, Gs_0 hF0 hF S, ff⟩
  apply two
  unfold F_X11_thought F_X12_thought
  rw [hb_e]
  have e46 : (hs h 103 0 0).1 103 46 = h.1 103 46 := by simp [hs_1]
  have e132 : (hs h 103 0 0).1 132 0 = h.1 132 0 := by simp [hs_1]
  rw [e46, within_x, bI_s]
  rcases S with ⟨s1, s2⟩ | ⟨D, s1, s2, K, U, HD, Hc, Hm, -⟩
  · rw [if_pos s1, if_pos s2]
    exact ⟨_, rfl, rfl⟩
  · have dl := HdD_le HD
    rw [if_neg (show ¬ h.1 39 0 = 0 by rw [s1]; decide), if_neg (show ¬ h.1 103 46 = 0 by rw [s2]; decide)]
    by_cases g : wth a 0 4 = true
    · obtain ⟨p, hp, rfl⟩ := wth_0n (k := 4) (by omega) g
      rw [if_pos g, if_neg one10, if_neg (nI_pos (by omega)), if_pos ((n_le_l 4 (by omega) (by omega)).mpr hp), Hc.1]
      unfold F_X12_thought_b36
      rw [if_pos (show inb (0 : Int32) 4 = true by decide), show (0 : Int32).toNatClampNeg = 0 from rfl, e132, Hm.1]
      by_cases p0 : p = 0
      · subst p0
        rw [if_pos (by decide), if_pos (by decide), if_pos (by decide)]
        exact ⟨_, rfl, rfl⟩
      · have n0 : ¬ nI p = 0 := nI_ne0 (by omega) (by omega)
        rw [if_neg n0, if_neg (nI_nle (by omega) (by omega))]
        by_cases z : D.length = 0
        · rw [z, if_pos (show nI 0 = (0 : Int32) from rfl), if_pos (show nI 0 = (0 : Int32) from rfl)]
          exact ⟨_, rfl, rfl⟩
        · have nz : ¬ nI D.length = 0 := nI_ne0 (by omega) (by omega)
          rw [if_neg nz, if_neg nz, if_neg n0]
          unfold F_X3_summary
          have Hm' : HdM (qAll F T) 0 0 D (hs h 103 0 0) := ⟨by rw [e132]; exact Hm.1, fun t ht => by rw [hs_1, if_neg (by decide)]; exact Hm.2 t ht⟩
          obtain ⟨x, ex1, ex2⟩ := sum_x (N := N) (x1 := nI p) hF G K.2.1 HD Hc Hm' N N 0 255 0 0 0 (by omega) (by omega) (by omega) (by decide)
          rw [show F_X3_summary_b15 N N (nI p) 255 0 0 0 0 h = _ from ex1, bI_s]
          exact ⟨x, rfl, ex2⟩
    · rw [if_neg g, if_pos rfl]
      have : (if a < 0 then some ((-1 : Int32), h) else if a ≤ 4 then (if a = 0 then some (h.1 39 1, h) else if h.1 39 1 = 0 then some ((-1 : Int32), h) else bI (F_X3_summary N a h) (fun r6 h7 => some (r6, h7))) else some ((-1 : Int32), h)) = some (-1, h) := by
        by_cases y : a < 0
        · rw [if_pos y]
        · rw [if_neg y, if_neg (fun z => g (decide_eq_true ⟨Int32.not_lt.mp y, z⟩))]
      rw [this]
      exact ⟨_, rfl, rfl⟩
end
