/-! all that is told of cars and persons, on both sides -/
def PlC (F c z d p : Nat) (h : PH) : Prop := (1 ≤ c ∧ c ≤ 2 ∧ 1 ≤ z ∧ z ≤ 8 ∧ d ≤ 9 ∧ p < F) ∧ h.1 51 7 = nI F ∧ h.1 51 8 = nI c ∧ h.1 51 9 = nI z ∧ h.1 51 10 = nI d ∧ h.1 51 11 = nI p ∧ h.1 103 53 = nI c ∧ h.1 103 54 = nI z ∧ h.1 103 55 = nI d ∧ h.1 103 56 = nI p
def PlP (F n : Nat) (tm fm to : Nat → Nat) (h : PH) : Prop := n ≤ 24 ∧ h.1 51 12 = nI n ∧ h.1 103 57 = nI n ∧ ∀ i, i < n → tm i ≤ 300 ∧ fm i < F ∧ to i < F ∧ fm i ≠ to i ∧ h.1 52 i = nI (tm i) ∧ h.1 53 i = nI (fm i) ∧ h.1 54 i = nI (to i) ∧ h.1 136 i = nI (tm i) ∧ h.1 137 i = nI (fm i) ∧ h.1 138 i = nI (to i)
def PlH (n : Nat) (tm cr tk : Nat → Nat) (h : PH) : Prop := n ≤ 8 ∧ h.1 51 13 = nI n ∧ h.1 103 61 = nI n ∧ ∀ i, i < n → tm i < 900 ∧ cr i < 2 ∧ 1 ≤ tk i ∧ tk i ≤ 60 ∧ h.1 55 i = nI (tm i) ∧ h.1 56 i = nI (cr i) ∧ h.1 57 i = nI (tk i) ∧ h.1 139 i = nI (tm i) ∧ h.1 140 i = nI (cr i) ∧ h.1 141 i = nI (tk i)
/-- the fire: 0 for none, else its time and 1 -/
def PlF (f : Nat) (h : PH) : Prop := f ≤ 900 ∧ h.1 51 14 = bu f ∧ h.1 103 65 = bu f
def PlI (F : Nat) (h : PH) : Prop := (∃ c z d p, PlC F c z d p h) ∧ (∃ n tm fm to, PlP F n tm fm to h) ∧ (∃ n tm cr tk, PlH n tm cr tk h) ∧ ∃ f, PlF f h
section
variable {F N : Nat}
theorem PlC_q {c z d p : Nat} {h h' : PH} (P : PlC F c z d p h) (e : ∀ a b, (a = 51 ∧ 7 ≤ b ∧ b ≤ 11) ∨ (a = 103 ∧ 53 ≤ b ∧ b ≤ 56) → h'.1 a b = h.1 a b) : PlC F c z d p h' := by
  obtain ⟨p0, p1, p2, p3, p4, p5, p6, p7, p8, p9⟩ := P
  refine ⟨p0, ?_, ?_, ?_, ?_, ?_, ?_, ?_, ?_, ?_⟩
  · rw [e 51 7 (by omega)]; exact p1
  · rw [e 51 8 (by omega)]; exact p2
  · rw [e 51 9 (by omega)]; exact p3
  · rw [e 51 10 (by omega)]; exact p4
  · rw [e 51 11 (by omega)]; exact p5
  · rw [e 103 53 (by omega)]; exact p6
  · rw [e 103 54 (by omega)]; exact p7
  · rw [e 103 55 (by omega)]; exact p8
  · rw [e 103 56 (by omega)]; exact p9
theorem PlP_q {n : Nat} {tm fm to : Nat → Nat} {h h' : PH} (P : PlP F n tm fm to h) (e : ∀ a b, (a = 51 ∧ b = 12) ∨ (a = 103 ∧ b = 57) ∨ (52 ≤ a ∧ a ≤ 54) ∨ (136 ≤ a ∧ a ≤ 138) → h'.1 a b = h.1 a b) : PlP F n tm fm to h' := by
  obtain ⟨p0, p1, p2, p3⟩ := P
  refine ⟨p0, by rw [e 51 12 (by omega)]; exact p1, by rw [e 103 57 (by omega)]; exact p2, fun i hi => ?_⟩
  rw [e 52 i (by omega), e 53 i (by omega), e 54 i (by omega), e 136 i (by omega), e 137 i (by omega), e 138 i (by omega)]
  exact p3 i hi
theorem PlH_q {n : Nat} {tm cr tk : Nat → Nat} {h h' : PH} (P : PlH n tm cr tk h) (e : ∀ a b, (a = 51 ∧ b = 13) ∨ (a = 103 ∧ b = 61) ∨ (55 ≤ a ∧ a ≤ 57) ∨ (139 ≤ a ∧ a ≤ 141) → h'.1 a b = h.1 a b) : PlH n tm cr tk h' := by
  obtain ⟨p0, p1, p2, p3⟩ := P
  refine ⟨p0, by rw [e 51 13 (by omega)]; exact p1, by rw [e 103 61 (by omega)]; exact p2, fun i hi => ?_⟩
  rw [e 55 i (by omega), e 56 i (by omega), e 57 i (by omega), e 139 i (by omega), e 140 i (by omega), e 141 i (by omega)]
  exact p3 i hi
theorem PlF_q {f : Nat} {h h' : PH} (P : PlF f h) (e : ∀ a b, (a = 51 ∧ b = 14) ∨ (a = 103 ∧ b = 65) → h'.1 a b = h.1 a b) : PlF f h' := ⟨P.1, by rw [e 51 14 (by omega)]; exact P.2.1, by rw [e 103 65 (by omega)]; exact P.2.2⟩
def NbK : List (Nat × Nat) := [(51, 12), (51, 13), (51, 14), (51, 15), (103, 0), (103, 57), (103, 61), (103, 65)]
theorem P_nobody {h : PH} (P : PlI F h) : ∃ r h1 h2, F_X11_nobody h = some (r, h1) ∧ F_X12_nobody h1 = some (r, h2) ∧ PlI F h2 ∧ h2.1 51 15 = h.1 51 15 + 1 ∧ fq [] NbK h h2 := by
  obtain ⟨⟨c, z, d, p, pc⟩, -, -, -⟩ := P
  have key : ∃ h1 h2, F_X11_nobody h = some (1, h1) ∧ F_X12_nobody h1 = some (1, h2) ∧ fq [] NbK h h2 ∧ h2.1 51 15 = h.1 51 15 + 1 ∧ h2.1 51 12 = 0 ∧ h2.1 51 13 = 0 ∧ h2.1 51 14 = -1 ∧ h2.1 103 57 = 0 ∧ h2.1 103 61 = 0 ∧ h2.1 103 65 = -1 := by
    refine ⟨_, _, rfl, rfl, ?_, ?_, ?_, ?_, ?_, ?_, ?_, ?_⟩
    · exact fq_s (fq_s (fq_s (fq_s (fq_s (fq_s (fq_s (fq_s fq_0 (Or.inr (by decide))) (Or.inr (by decide))) (Or.inr (by decide))) (Or.inr (by decide))) (Or.inr (by decide))) (Or.inr (by decide))) (Or.inr (by decide))) (Or.inr (by decide))
    all_goals simp [hs_1]
  obtain ⟨h1, h2, e1, e2, f, b1, b2, b3, b4, b5, b6, b7⟩ := key
  exact ⟨1, h1, h2, e1, e2, ⟨⟨c, z, d, p, PlC_q pc (fun a b q => f a b (by simp) (by simp [NbK]; omega))⟩, ⟨0, fun _ => 0, fun _ => 0, fun _ => 0, by omega, b2, b5, fun i hi => by omega⟩, ⟨0, fun _ => 0, fun _ => 0, fun _ => 0, by omega, b3, b6, fun i hi => by omega⟩, ⟨0, by omega, b4, b7⟩⟩, b1, f⟩
theorem P_fire {h : PH} (P : PlI F h) (a : Int32) : ∃ r h1 h2, F_X11_fire a h = some (r, h1) ∧ F_X12_fire a h1 = some (r, h2) ∧ PlI F h2 ∧ ((r = 1 ∧ h2.1 51 15 = h.1 51 15 + 1) ∨ (r = 0 ∧ fq [] [(103, 0)] h h2)) ∧ fq [] NbK h h2 := by
  obtain ⟨⟨c, z, d, p, pc⟩, ⟨n, tm, fm, to, pp⟩, ⟨n2, t2, c2, k2, ph⟩, ⟨f, pf⟩⟩ := P
  by_cases g : wth a (-1) 899 = true
  · obtain ⟨g1, g2⟩ := of_decide_eq_true g
    have key : ∃ h1 h2, F_X11_fire a h = some (1, h1) ∧ F_X12_fire a h1 = some (1, h2) ∧ fq [] [(51, 14), (51, 15), (103, 0), (103, 65)] h h2 ∧ h2.1 51 15 = h.1 51 15 + 1 ∧ h2.1 51 14 = a ∧ h2.1 103 65 = a := by
      refine ⟨hs (hs h 51 14 a) 51 15 ((hs h 51 14 a).1 51 15 + 1), hs (hs (hs (hs h 51 14 a) 51 15 ((hs h 51 14 a).1 51 15 + 1)) 103 0 0) 103 65 a, ?_, ?_, fq_s (fq_s (fq_s (fq_s fq_0 (Or.inr (by decide))) (Or.inr (by decide))) (Or.inr (by decide))) (Or.inr (by decide)), ?_, ?_, ?_⟩
      · unfold F_X11_fire F_X6_setFire
        rw [if_neg (Int32.not_lt.mpr g1), if_pos (Int32.lt_of_le_of_lt g2 (by decide))]
        rfl
      · unfold F_X12_fire
        rw [hb_e, within_x, bI_s, if_pos g, if_neg one10]
        rfl
      all_goals simp [hs_1]
    obtain ⟨h1, h2, e1, e2, ff, b1, b2, b3⟩ := key
    have fa : ∃ f, f ≤ 900 ∧ a = bu f := by
      by_cases y : a < 0
      · refine ⟨0, by omega, ?_⟩
        rw [Int32.lt_iff_toInt_lt] at y
        rw [Int32.le_iff_toInt_le] at g1
        have q0 : (0 : Int32).toInt = 0 := by decide
        have q1 : (-1 : Int32).toInt = -1 := by decide
        exact Int32.toInt_inj.mp (by show a.toInt = (-1 : Int32).toInt; omega)
      · obtain ⟨k, hk, rfl⟩ := nI_of y
        exact ⟨k + 1, by have := (n_le_l 899 hk (by omega)).mp g2; omega, rfl⟩
    obtain ⟨f', hf', rfl⟩ := fa
    exact ⟨1, h1, h2, e1, e2, ⟨⟨c, z, d, p, PlC_q pc (fun a b q => ff a b (by simp) (by simp; omega))⟩, ⟨n, tm, fm, to, PlP_q pp (fun a b q => ff a b (by simp) (by simp; omega))⟩, ⟨n2, t2, c2, k2, PlH_q ph (fun a b q => ff a b (by simp) (by simp; omega))⟩, ⟨f', hf', b2, b3⟩⟩, Or.inl ⟨rfl, b1⟩, fq_w ff (by simp) (by simp [NbK])⟩
  · have ff : fq [] [(103, 0)] h (hs h 103 0 0) := fq_s fq_0 (Or.inr (by decide))
    refine ⟨0, h, hs h 103 0 0, ?_, ?_, ⟨⟨c, z, d, p, PlC_q pc (fun a b q => ff a b (by simp) (by simp; omega))⟩, ⟨n, tm, fm, to, PlP_q pp (fun a b q => ff a b (by simp) (by simp; omega))⟩, ⟨n2, t2, c2, k2, PlH_q ph (fun a b q => ff a b (by simp) (by simp; omega))⟩, ⟨f, PlF_q pf (fun a b q => ff a b (by simp) (by simp; omega))⟩⟩, Or.inr ⟨rfl, ff⟩, fq_w ff (by simp) (by simp [NbK])⟩
    · unfold F_X11_fire
      by_cases y : a < -1
      · rw [if_pos y]
      · rw [if_neg y, if_neg (fun w => g (decide_eq_true ⟨Int32.not_lt.mp y, by
          by_cases y0 : a < 0
          · exact Int32.le_of_lt (Int32.lt_trans y0 (by decide))
          · obtain ⟨k, hk, rfl⟩ := nI_of y0
            exact (n_le_l 899 hk (by omega)).mpr (by have := (n_lt_l 900 hk (by omega)).mp w; omega)⟩))]
    · unfold F_X12_fire
      rw [hb_e, within_x, bI_s, if_neg g, if_pos rfl]
end
