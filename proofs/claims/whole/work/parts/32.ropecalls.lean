/-! the rope's calls -/
def RI (h : PH) : Prop := ∃ r : RT, RB r ∧ RC r h ∧ RN r h
def RI_S : List Nat := [99, 100, 101, 102, 150, 151, 152]
def RI_K : List (Nat × Nat) := [(103, 75), (103, 79), (103, 80), (103, 81)]
theorem RI_c {h h' : PH} (e : ∀ k j, k ∈ RI_S ∨ (k, j) ∈ RI_K → h'.1 k j = h.1 k j) (I : RI h) : RI h' := by
  obtain ⟨⟨L, S, Li, D, lo, hi, cn⟩, B, C, M⟩ := I
  refine ⟨(L, S, Li, D, lo, hi, cn), B, ?_, ?_⟩
  · obtain ⟨c1, c2, c3, c4, c5⟩ := C
    refine ⟨?_, ?_, ?_, ?_, fun k hk => ?_⟩
    · rw [e 99 0 (Or.inl (by decide))]; exact c1
    · rw [e 99 4 (Or.inl (by decide))]; exact c2
    · rw [e 99 5 (Or.inl (by decide))]; exact c3
    · rw [e 99 6 (Or.inl (by decide))]; exact c4
    · rw [e 100 k (Or.inl (by decide)), e 101 k (Or.inl (by decide)), e 102 k (Or.inl (by decide))]; exact c5 k hk
  · obtain ⟨c1, c2, c3, c4, c5⟩ := M
    refine ⟨?_, ?_, ?_, ?_, fun k hk => ?_⟩
    · rw [e 103 75 (Or.inr (by decide))]; exact c1
    · rw [e 103 79 (Or.inr (by decide))]; exact c2
    · rw [e 103 80 (Or.inr (by decide))]; exact c3
    · rw [e 103 81 (Or.inr (by decide))]; exact c4
    · rw [e 150 k (Or.inl (by decide)), e 151 k (Or.inl (by decide)), e 152 k (Or.inl (by decide))]; exact c5 k hk
theorem P_trip {F : Nat} (hF : F ≤ 6) {h : PH} (HFc : HC F h) (HFm : HM F h) (I : RI h) (a1 a2 a3 : Int32) : ∃ r h1 h2, F_X11_trip a1 a2 a3 h = some (r, h1) ∧ F_X12_trip a1 a2 a3 h1 = some (r, h2) ∧ RI h2 ∧ fq RI_S ((103, 0) :: RI_K) h h2 := by
  obtain ⟨⟨L, S, Li, D, lo, hi, cn⟩, B, C, M⟩ := I
  obtain ⟨b1, b2, b3, b4, b5, b6, b7⟩ := B
  obtain ⟨c1, c2, c3, c4, c5⟩ := C
  obtain ⟨m1, m2, m3, m4, m5⟩ := M
  have hm0 : HM F (hs h 103 0 0) := by unfold HM; rw [hs_1]; simp; exact HFm
  have I0 : RI (hs h 103 0 0) := RI_c (fun k j q => by
    rw [hs_1]
    rcases q with q | q
    · rw [if_neg (by rintro rfl; exact absurd q (by decide))]
    · by_cases e : k = 103
      · subst e
        rw [if_pos rfl, if_neg (by rintro rfl; exact absurd q (by decide))]
      · rw [if_neg e]) ⟨(L, S, Li, D, lo, hi, cn), ⟨b1, b2, b3, b4, b5, b6, b7⟩, ⟨c1, c2, c3, c4, c5⟩, ⟨m1, m2, m3, m4, m5⟩⟩
  have fr0 : fq RI_S ((103, 0) :: RI_K) h (hs h 103 0 0) := fq_s fq_0 (by decide)
  unfold F_X11_trip F_X12_trip
  simp only [isFloorC_x HFc, bI_s, hb_e]
  cases g1 : isF F a1 with
  | false => exact ⟨0, h, hs h 103 0 0, rfl, by rw [isFloorM_x hm0, g1]; rfl, I0, fr0⟩
  | true =>
    cases g2 : isF F a2 with
    | false =>
      refine ⟨0, h, hs h 103 0 0, rfl, ?_, I0, fr0⟩
      simp only [isFloorM_x hm0, g1, g2, bI_s]
      rfl
    | true =>
      by_cases g3 : a1 = a2
      · refine ⟨0, h, hs h 103 0 0, by simp [g3], ?_, I0, fr0⟩
        simp only [isFloorM_x hm0, g1, g2, bI_s]
        simp [g3]
      · by_cases g4 : a3 < 1
        · refine ⟨0, h, hs h 103 0 0, by simp [g3, g4], ?_, I0, fr0⟩
          have : wth a3 1 9999 = false := decide_eq_false (fun q => absurd g4 (Int32.not_lt.mpr q.1))
          simp only [isFloorM_x hm0, g1, g2, bI_s, within_x, this]
          simp [g3]
        · by_cases g5 : a3 ≤ 9999
          · have w1 : wth a3 1 9999 = true := decide_eq_true ⟨Int32.not_lt.mp g4, g5⟩
            obtain ⟨f, hf, rfl⟩ := isF_n g1 (by omega)
            obtain ⟨t, ht, rfl⟩ := isF_n g2 (by omega)
            obtain ⟨n, hn, rfl⟩ := nI_of2 (x := a3) (M := 9999) (n := 9999) (by decide) (fun q => g4 (Int32.lt_trans q (by decide))) g5
            have hn1 : 1 ≤ n := by
              rcases Nat.eq_zero_or_pos n with e | e
              · subst e; exact absurd (by decide) g4
              · exact e
            have hne : f ≠ t := fun e => g3 (by rw [e])
            simp only [isFloorM_x hm0, isF_k hf (by omega), isF_k ht (by omega), bI_s, within_x, w1]
            unfold F_X7_addTrip
            by_cases g6 : L = 40
            · subst g6
              refine ⟨0, h, hs h 103 0 0, ?_, ?_, I0, fr0⟩
              · have : ¬ nI 40 < (40 : Int32) := by decide
                simp [c1, g3, g4, g5, zb, this, bI_s]
              · have : nI 40 = (40 : Int32) := by decide
                simp [isFloorM_x hm0, isF_k hf (show F < 2 ^ 31 by omega), isF_k ht (show F < 2 ^ 31 by omega), bI_s, hs_1, m1, g3, this]
            · have hl : nI L < 40 := nI_lt (b := 40) (by omega) (by omega)
              have hmin : imin (nI f) (nI t) = nI (min f t) := by
                unfold imin
                by_cases e : t < f
                · rw [if_pos (nI_lt e (by omega)), Nat.min_eq_right (by omega)]
                · rw [if_neg (nI_nlt (by omega) (by omega)), Nat.min_eq_left (by omega)]
              have hmax : imax (nI f) (nI t) = nI (max f t) := by
                unfold imax
                by_cases e : f < t
                · rw [if_pos (nI_lt e (by omega)), Nat.max_eq_right (by omega)]
                · rw [if_neg (nI_nlt (by omega) (by omega)), Nat.max_eq_left (by omega)]
              have hm40 : ¬ nI L = 40 := fun e => g6 ((nI_eq (b := 40) (by omega) (by omega)).mp e)
              have hinM : inb (nI L) 40 = true := nI_in0 (by omega) (by omega)
              have hclM : (nI L).toNatClampNeg = L := nI_clamp (by omega)
              have hcond : (if nI t ≤ nI f then nI t else nI f) = nI (min f t) := by
                by_cases e : t ≤ f
                · rw [if_pos (nI_le e (by omega)), Nat.min_eq_right e]
                · rw [if_neg (nI_ge (by omega) (by omega)), Nat.min_eq_left (by omega)]
              have hcond2 : (if nI t ≤ nI f then nI f else nI t) = nI (max f t) := by
                by_cases e : t ≤ f
                · rw [if_pos (nI_le e (by omega)), Nat.max_eq_left e]
                · rw [if_neg (nI_ge (by omega) (by omega)), Nat.max_eq_right (by omega)]
              refine ⟨1, hs (hs (hs (hs h 100 L (nI (min f t))) 101 L (nI (max f t))) 102 L (nI n)) 99 0 (nI (L + 1)), hs (hs (hs (hs (hs (hs (hs (hs (hs h 100 L (nI (min f t))) 101 L (nI (max f t))) 102 L (nI n)) 99 0 (nI (L + 1))) 103 0 0) 150 L (nI (min f t))) 151 L (nI (max f t))) 152 L (nI n)) 103 75 (nI (L + 1)), ?_, ?_, ?_, ?_⟩
              · simp [hl, hinM, hclM, hmin, hmax, g3, g4, g5, hs_1, zb, bI_s, hb_e, c1, nI_1]
              · unfold F_X12_trip_b66 F_X12_trip_b85
                have e1 : HM F (hs (hs (hs (hs (hs h 100 L (nI (min f t))) 101 L (nI (max f t))) 102 L (nI n)) 99 0 (nI (L + 1))) 103 0 0) := by unfold HM; simp [hs_1]; exact HFm
                simp only [isFloorM_x e1, isF_k hf (by omega), isF_k ht (by omega), bI_s, hs_1]
                simp only [m1]
                by_cases e : t ≤ f
                · rw [if_pos (nI_le e (by omega))] at hcond hcond2
                  simp [g3, hm40, hinM, hclM, nI_le e (show f < 2 ^ 31 by omega), hs_1, hb_e, m1, nI_1, ← hcond, ← hcond2]
                · rw [if_neg (nI_ge (by omega) (by omega))] at hcond hcond2
                  simp [g3, hm40, hinM, hclM, nI_ge (show f < t by omega) (show t < 2 ^ 31 by omega), hs_1, hb_e, m1, nI_1, ← hcond, ← hcond2]
              · refine ⟨(L + 1, S, Li, D, fun k => if k = L then min f t else lo k, fun k => if k = L then max f t else hi k, fun k => if k = L then n else cn k), ?_, ?_, ?_⟩
                · refine ⟨by omega, b2, b3, b4, b5, b6, fun k hk => ?_⟩
                  dsimp only
                  by_cases e : k = L
                  · simp only [if_pos e]; omega
                  · simp only [if_neg e]; exact b7 k (by omega)
                · refine ⟨?_, ?_, ?_, ?_, fun k hk => ?_⟩
                  · simp [hs_1]
                  · simp [hs_1]; exact c2
                  · simp [hs_1]; exact c3
                  · simp [hs_1]; exact c4
                  · by_cases e : k = L
                    · simp [hs_1, e]
                    · simp [hs_1, e]; exact c5 k (by omega)
                · refine ⟨?_, ?_, ?_, ?_, fun k hk => ?_⟩
                  · simp [hs_1]
                  · simp [hs_1]; exact m2
                  · simp [hs_1]; exact m3
                  · simp [hs_1]; exact m4
                  · by_cases e : k = L
                    · simp [hs_1, e]
                    · simp [hs_1, e]; exact m5 k (by omega)
              · exact fq_s (fq_s (fq_s (fq_s (fq_s (fq_s (fq_s (fq_s (fq_s fq_0 (Or.inl (by decide))) (Or.inl (by decide))) (Or.inl (by decide))) (Or.inl (by decide))) (by decide)) (Or.inl (by decide))) (Or.inl (by decide))) (Or.inl (by decide))) (by decide)
          · refine ⟨0, h, hs h 103 0 0, by simp [g3, g4, g5], ?_, I0, fr0⟩
            have : wth a3 1 9999 = false := decide_eq_false (fun q => g5 q.2)
            simp only [isFloorM_x hm0, g1, g2, bI_s, within_x, this]
            simp [g3]
theorem thr0 {S : List Nat} {K : List (Nat × Nat)} {h : PH} : fq S ((103, 0) :: K) h (hs h 103 0 0) := fq_s fq_0 (Or.inr List.mem_cons_self)
theorem RI_0 {h : PH} {x : Int32} (I : RI h) : RI (hs h 103 0 x) := RI_c (fun k j q => by
    rw [hs_1]
    rcases q with q | q
    · rw [if_neg (by rintro rfl; exact absurd q (by decide))]
    · by_cases e : k = 103
      · subst e
        rw [if_pos rfl, if_neg (by rintro rfl; exact absurd q (by decide))]
      · rw [if_neg e]) I
theorem HM_0 {F : Nat} {h : PH} {x : Int32} (I : HM F h) : HM F (hs h 103 0 x) := by unfold HM; rw [hs_1]; simp; exact I
theorem setSlip_x (a : Int32) {h : PH} : F_X7_setSlip a h = some (if wth a 0 50 then 1 else 0, if wth a 0 50 then hs h 99 4 a else h) := by
  unfold F_X7_setSlip F_X7_setSlip_b14 F_X7_setSlip_b15 F_X7_setSlip_b29
  by_cases g1 : a < 0
  · have w : wth a 0 50 = false := decide_eq_false (fun q => absurd g1 (Int32.not_lt.mpr q.1))
    simp [g1, w, hs_id, hb_e, zb]
  · by_cases g2 : 50 < a
    · have w : wth a 0 50 = false := decide_eq_false (fun q => absurd g2 (Int32.not_lt.mpr q.2))
      simp [g1, g2, w, hs_id, hb_e, zb]
    · have w : wth a 0 50 = true := decide_eq_true ⟨Int32.not_lt.mp g1, Int32.not_lt.mp g2⟩
      simp [g1, g2, w, hb_e, zb]
theorem setLife_x (a : Int32) {h : PH} : F_X7_setLife a h = some (if wth a 1 999999 then 1 else 0, if wth a 1 999999 then hs h 99 5 a else h) := by
  unfold F_X7_setLife F_X7_setLife_b15 F_X7_setLife_b16 F_X7_setLife_b30
  by_cases g1 : a < 1
  · have w : wth a 1 999999 = false := decide_eq_false (fun q => absurd g1 (Int32.not_lt.mpr q.1))
    simp [g1, w, hs_id, hb_e, zb]
  · by_cases g2 : 999999 < a
    · have w : wth a 1 999999 = false := decide_eq_false (fun q => absurd g2 (Int32.not_lt.mpr q.2))
      simp [g1, g2, w, hs_id, hb_e, zb]
    · have w : wth a 1 999999 = true := decide_eq_true ⟨Int32.not_lt.mp g1, Int32.not_lt.mp g2⟩
      simp [g1, g2, w, hb_e, zb]
theorem setDays_x (a : Int32) {h : PH} : F_X7_setDays a h = some (if wth a 1 9999 then 1 else 0, if wth a 1 9999 then hs h 99 6 a else h) := by
  unfold F_X7_setDays F_X7_setDays_b16 F_X7_setDays_b17 F_X7_setDays_b31
  by_cases g1 : a < 1
  · have w : wth a 1 9999 = false := decide_eq_false (fun q => absurd g1 (Int32.not_lt.mpr q.1))
    simp [g1, w, hs_id, hb_e, zb]
  · by_cases g2 : 9999 < a
    · have w : wth a 1 9999 = false := decide_eq_false (fun q => absurd g2 (Int32.not_lt.mpr q.2))
      simp [g1, g2, w, hs_id, hb_e, zb]
    · have w : wth a 1 9999 = true := decide_eq_true ⟨Int32.not_lt.mp g1, Int32.not_lt.mp g2⟩
      simp [g1, g2, w, hb_e, zb]
theorem wth_n {a b c : Int32} {m k : Nat} (hb : b.toInt = m) (hc : c.toInt = k) (h : wth a b c = true) : ∃ n : Nat, m ≤ n ∧ n ≤ k ∧ a = nI n := by
  obtain ⟨h1, h2⟩ := of_decide_eq_true h
  rw [Int32.le_iff_toInt_le, hb] at h1
  rw [Int32.le_iff_toInt_le, hc] at h2
  refine ⟨a.toNatClampNeg, ?_, ?_, ?_⟩
  · rw [← Int32.toNat_toInt]; omega
  · rw [← Int32.toNat_toInt]; omega
  · rw [iI_nat, ← Int32.toNat_toInt, Int.toNat_of_nonneg (by omega)]
    exact (Int32.ofInt_toInt a).symm
theorem P_gauge {h : PH} (I : RI h) (a1 a2 : Int32) : ∃ r h1 h2, F_X11_gauge a1 a2 h = some (r, h1) ∧ F_X12_gauge a1 a2 h1 = some (r, h2) ∧ RI h2 ∧ fq RI_S ((103, 0) :: RI_K) h h2 := by
  have I0 : RI (hs h 103 0 0) := RI_0 I
  have fr0 : fq RI_S ((103, 0) :: RI_K) h (hs h 103 0 0) := thr0
  unfold F_X11_gauge F_X12_gauge F_X12_gauge_b24 F_X12_gauge_b47 F_X12_gauge_b64 F_X12_gauge_b74
  simp only [within_x, bI_s, hb_e, setSlip_x, setLife_x, setDays_x, zb_b]
  by_cases g0 : a1 = 0
  · subst g0
    have w0 : wth 0 0 2 = true := by decide
    simp only [w0]
    cases w1 : wth a2 0 50 with
    | false => exact ⟨0, h, hs h 103 0 0, by simp, by simp [w1], I0, fr0⟩
    | true =>
      refine ⟨1, hs h 99 4 a2, hs (hs (hs h 99 4 a2) 103 0 0) 103 79 a2, by simp, by simp [w1], ?_, fq_s (fq_s (fq_s fq_0 (Or.inl (by decide))) (Or.inr (by decide))) (Or.inr (by decide))⟩
      obtain ⟨n, n1, n2, rfl⟩ := wth_n (m := 0) (k := 50) (by decide) (by decide) w1
      obtain ⟨⟨L, S, Li, D, lo, hi, cn⟩, ⟨b1, b2, b3, b4, b5, b6, b7⟩, ⟨c1, c2, c3, c4, c5⟩, ⟨m1, m2, m3, m4, m5⟩⟩ := I
      exact ⟨(L, n, Li, D, lo, hi, cn), ⟨b1, n2, b3, b4, b5, b6, b7⟩, by refine ⟨?_, ?_, ?_, ?_, fun k hk => ?_⟩ <;> simp [hs_1] <;> first | assumption | exact c5 k hk, by refine ⟨?_, ?_, ?_, ?_, fun k hk => ?_⟩ <;> simp [hs_1] <;> first | assumption | exact m5 k hk⟩
  · by_cases g1 : a1 = 1
    · subst g1
      have w0 : wth 1 0 2 = true := by decide
      simp only [w0]
      cases w1 : wth a2 1 999999 with
      | false => exact ⟨0, h, hs h 103 0 0, by simp, by simp [w1], I0, fr0⟩
      | true =>
        refine ⟨1, hs h 99 5 a2, hs (hs (hs h 99 5 a2) 103 0 0) 103 80 a2, by simp, by simp [w1], ?_, fq_s (fq_s (fq_s fq_0 (Or.inl (by decide))) (Or.inr (by decide))) (Or.inr (by decide))⟩
        obtain ⟨n, n1, n2, rfl⟩ := wth_n (m := 1) (k := 999999) (by decide) (by decide) w1
        obtain ⟨⟨L, S, Li, D, lo, hi, cn⟩, ⟨b1, b2, b3, b4, b5, b6, b7⟩, ⟨c1, c2, c3, c4, c5⟩, ⟨m1, m2, m3, m4, m5⟩⟩ := I
        exact ⟨(L, S, n, D, lo, hi, cn), ⟨b1, b2, n1, n2, b5, b6, b7⟩, by refine ⟨?_, ?_, ?_, ?_, fun k hk => ?_⟩ <;> simp [hs_1] <;> first | assumption | exact c5 k hk, by refine ⟨?_, ?_, ?_, ?_, fun k hk => ?_⟩ <;> simp [hs_1] <;> first | assumption | exact m5 k hk⟩
    · by_cases g2 : a1 = 2
      · subst g2
        have w0 : wth 2 0 2 = true := by decide
        simp only [w0]
        cases w1 : wth a2 1 9999 with
        | false => exact ⟨0, h, hs h 103 0 0, by simp, by simp [w1], I0, fr0⟩
        | true =>
          refine ⟨1, hs h 99 6 a2, hs (hs (hs h 99 6 a2) 103 0 0) 103 81 a2, by simp, by simp [w1], ?_, fq_s (fq_s (fq_s fq_0 (Or.inl (by decide))) (Or.inr (by decide))) (Or.inr (by decide))⟩
          obtain ⟨n, n1, n2, rfl⟩ := wth_n (m := 1) (k := 9999) (by decide) (by decide) w1
          obtain ⟨⟨L, S, Li, D, lo, hi, cn⟩, ⟨b1, b2, b3, b4, b5, b6, b7⟩, ⟨c1, c2, c3, c4, c5⟩, ⟨m1, m2, m3, m4, m5⟩⟩ := I
          exact ⟨(L, S, Li, n, lo, hi, cn), ⟨b1, b2, b3, b4, n1, n2, b7⟩, by refine ⟨?_, ?_, ?_, ?_, fun k hk => ?_⟩ <;> simp [hs_1] <;> first | assumption | exact c5 k hk, by refine ⟨?_, ?_, ?_, ?_, fun k hk => ?_⟩ <;> simp [hs_1] <;> first | assumption | exact m5 k hk⟩
      · have w0 : wth a1 0 2 = false := by
          cases w : wth a1 0 2 with
          | false => rfl
          | true =>
            obtain ⟨n, n1, n2, rfl⟩ := wth_n (m := 0) (k := 2) (by decide) (by decide) w
            rcases (show n = 0 ∨ n = 1 ∨ n = 2 by omega) with rfl | rfl | rfl
            · exact absurd (by decide) g0
            · exact absurd (by decide) g1
            · exact absurd (by decide) g2
        exact ⟨0, h, hs h 103 0 0, by simp [g0, g1, g2], by simp [w0], I0, fr0⟩
theorem isPart_x {F : Nat} (hF2 : 2 ≤ F) {h : PH} (H : HM F h) (a : Int32) : F_X12_isPart a h = some (if wth a 0 (nI (F - 2)) then 1 else 0, h) := by
  unfold F_X12_isPart
  rw [H, nI_m2 hF2, within_x, bI_s, if_pos zb_b]
theorem part_n {F : Nat} (hF2 : 2 ≤ F) (hF : F ≤ 6) {a : Int32} (h : wth a 0 (nI (F - 2)) = true) : ∃ p : Nat, p < F - 1 ∧ a = nI p := by
  obtain ⟨n, n1, n2, rfl⟩ := wth_n (m := 0) (k := F - 2) (by decide) (nI_toInt (by omega)) h
  exact ⟨n, by omega, rfl⟩
theorem part_c {F : Nat} (hF2 : 2 ≤ F) (hF : F ≤ 6) {a : Int32} : wth a 0 (nI (F - 2)) = true ↔ ¬ a < 0 ∧ a < nI (F - 1) := by
  constructor
  · intro q
    obtain ⟨p, h1, rfl⟩ := part_n hF2 hF q
    exact ⟨nI_pos (by omega), nI_lt h1 (by omega)⟩
  · rintro ⟨q1, q2⟩
    obtain ⟨j, h3, rfl⟩ := nI_of q1
    have := (nI_ltI h3 (by omega)).mp q2
    exact decide_eq_true ⟨nI_pos' h3, nI_le (by omega) (by omega)⟩
theorem P_rope {N F : Nat} (hN : 100 ≤ N) (hF2 : 2 ≤ F) (hF : F ≤ 6) {h : PH} (HFc : HC F h) (HFm : HM F h) (I : RI h) (a1 a2 : Int32) : ∃ r, F_X11_rope N a1 a2 h = some (r, h) ∧ F_X12_rope N a1 a2 h = some (r, hs h 103 0 0) := by
  obtain ⟨⟨L, S, Li, D, lo, hi, cn⟩, B, C, M⟩ := I
  have M0 : RN (L, S, Li, D, lo, hi, cn) (hs h 103 0 0) := by
    obtain ⟨m1, m2, m3, m4, m5⟩ := M
    refine ⟨?_, ?_, ?_, ?_, fun k hk => ?_⟩ <;> simp [hs_1] <;> first | assumption | exact m5 k hk
  unfold F_X11_rope F_X12_rope F_X7_worn F_X7_leastBends F_X7_mostBends
  rw [hb_e, isPart_x hF2 (HM_0 HFm), HFc, nI_m1 (by omega), bI_s]
  cases g : wth a1 0 (nI (F - 2)) with
  | false =>
    refine ⟨-1, ?_, by simp⟩
    have : ¬ (¬ a1 < 0 ∧ a1 < nI (F - 1)) := fun q => by rw [(part_c hF2 hF).mpr q] at g; cases g
    by_cases g1 : a1 < 0
    · simp [g1]
    · have g2 : ¬ a1 < nI (F - 1) := fun q => this ⟨g1, q⟩
      simp [g1, g2]
  | true =>
    obtain ⟨g1, g2⟩ := (part_c hF2 hF).mp g
    obtain ⟨p, hp, rfl⟩ := part_n hF2 hF g
    have cb := fun m => bends_x B C (N := N) (p := p) (f := p) m hN (by omega) (by omega)
    have c0 := cb false
    have c1 := cb true
    have mb := fun m => bendsOf_x B M0 (N := N) (p := p) m hN (by omega)
    have m0 := mb false
    have m1 := mb true
    rw [if_neg (by decide)] at c0 m0
    rw [if_pos rfl] at c1 m1
    have m0' : F_X12_bendsOf N (nI p) (-1) (hs h 103 0 0) = some (iI (rbd L S lo hi cn p p false), hs h 103 0 0) := m0
    have m1' : F_X12_bendsOf N (nI p) 1 (hs h 103 0 0) = some (iI (rbd L S lo hi cn p p true), hs h 103 0 0) := m1
    have hl1 : h.1 99 5 = nI Li := C.2.2.1
    have hl2 : (hs h 103 0 0).1 103 80 = nI Li := M0.2.2.1
    cases w : wth a2 0 2 with
    | false =>
      have q0 : ¬ a2 = 0 := by rintro rfl; exact absurd w (by decide)
      have q1 : ¬ a2 = 1 := by rintro rfl; exact absurd w (by decide)
      have q2 : ¬ a2 = 2 := by rintro rfl; exact absurd w (by decide)
      exact ⟨-1, by simp [g1, g2, q0, q1, q2], by simp [within_x, bI_s, w]⟩
    | true =>
      obtain ⟨n, n1, n2, rfl⟩ := wth_n (m := 0) (k := 2) (by decide) (by decide) w
      simp only [within_x, bI_s, w, m0', m1', c0, c1, g1, g2, hl1, hl2]
      rcases (show n = 0 ∨ n = 1 ∨ n = 2 by omega) with rfl | rfl | rfl
      · exact ⟨_, rfl, rfl⟩
      · exact ⟨_, rfl, rfl⟩
      · have e22 : nI 2 = (2 : Int32) := rfl
        by_cases q1 : iI (rbd L S lo hi cn p p false) < nI Li
        · by_cases q2 : iI (rbd L S lo hi cn p p true) < nI Li
          · exact ⟨0, by simp [e22, q1, q2, bI_s], by simp [e22, q1, q2]⟩
          · exact ⟨1, by simp [e22, q1, q2, bI_s], by simp [e22, q1, q2]⟩
        · exact ⟨2, by simp [e22, q1, bI_s], by simp [e22, q1]⟩
theorem P_first {N F : Nat} (hN : 100 ≤ N) (hF2 : 2 ≤ F) (hF : F ≤ 6) {h : PH} (HFc : HC F h) (HFm : HM F h) (I : RI h) (a1 : Int32) : ∃ r, F_X11_first N a1 h = some (r, h) ∧ F_X12_first N a1 h = some (r, hs h 103 0 0) := by
  obtain ⟨⟨L, S, Li, D, lo, hi, cn⟩, B, C, M⟩ := I
  have M0 : RN (L, S, Li, D, lo, hi, cn) (hs h 103 0 0) := by
    obtain ⟨m1, m2, m3, m4, m5⟩ := M
    refine ⟨?_, ?_, ?_, ?_, fun k hk => ?_⟩ <;> simp [hs_1] <;> first | assumption | exact m5 k hk
  unfold F_X11_first F_X12_first F_X12_first_b25
  rw [hb_e, within_x, bI_s]
  cases w : wth a1 0 1 with
  | false =>
    refine ⟨-1, ?_, by simp⟩
    by_cases g1 : a1 < 0
    · simp [g1]
    · have g2 : ¬ a1 ≤ 1 := fun q => by
        have := decide_eq_true (p := (0 : Int32) ≤ a1 ∧ a1 ≤ 1) ⟨Int32.not_lt.mp g1, q⟩
        rw [show wth a1 0 1 = decide ((0 : Int32) ≤ a1 ∧ a1 ≤ 1) from rfl, this] at w
        cases w
      simp [g1, g2]
  | true =>
    obtain ⟨n, n1, n2, rfl⟩ := wth_n (m := 0) (k := 1) (by decide) (by decide) w
    have key : ∀ m : Bool, orb (fun s => rlead L S lo hi cn (F - 1) s m) 0 (F - 1 - 0) 0 = orb (fun s => decide (∀ v, v < F - 1 → 0 ≤ isum (rmore S lo hi cn s v (if m then 1 else -1)) L)) 0 (F - 1 - 0) 0 := by
      intro m
      apply orb_eq
      intro j _ _
      exact rlead_eq m
    rcases (show n = 0 ∨ n = 1 by omega) with rfl | rfl
    · have c := firstC_15 B C (N := N) HFc (by omega) hF (x1 := nI 0) (m := true) (by decide) hN N 0 0 (by omega) (by omega)
      have m := firstM_31 B M0 (N := N) (HM_0 HFm) (by omega) hF (w := 1) (Or.inl rfl) hN N 0 0 (by omega) (by omega)
      have k := key true
      rw [if_pos rfl] at k
      rw [← k] at m
      exact ⟨_, c, m⟩
    · have c := firstC_15 B C (N := N) HFc (by omega) hF (x1 := nI 1) (m := false) (by decide) hN N 0 0 (by omega) (by omega)
      have m := firstM_31 B M0 (N := N) (HM_0 HFm) (by omega) hF (w := -1) (Or.inr rfl) hN N 0 0 (by omega) (by omega)
      have k := key false
      rw [if_neg (by decide)] at k
      rw [← k] at m
      exact ⟨_, c, m⟩
theorem rbd_pos {L S Li D : Nat} {lo hi cn : Nat → Nat} (B : RB (L, S, Li, D, lo, hi, cn)) {p f : Nat} {m : Bool} : 0 ≤ rbd L S lo hi cn p f m := by
  obtain ⟨b1, b2, b3, b4, b5, b6, b7⟩ := B
  unfold rbd
  have : ∀ n, n ≤ L → 0 ≤ isum (rterm S lo hi cn p f m) n := by
    intro n
    induction n with
    | zero => intro _; simp [isum]
    | succ n ih =>
      intro h1
      have h2 := ih (by omega)
      rw [isum_s]
      have h3 : 0 ≤ rterm S lo hi cn p f m n := by
        have q := b7 n (by omega)
        have h4 : rslip S cn n ≤ cn n := by
          unfold rslip
          have : cn n * S ≤ cn n * 50 := Nat.mul_le_mul_left _ b2
          omega
        have h5 := rslip_b (k := n) b2 q.2.2.2
        unfold rterm
        split
        · split <;> omega
        · omega
      omega
  exact this L (Nat.le_refl _)
theorem P_lasts {N F : Nat} (hN : 100 ≤ N) (hF2 : 2 ≤ F) (hF : F ≤ 6) {h : PH} (HFc : HC F h) (HFm : HM F h) (I : RI h) (a1 a2 : Int32) : ∃ r, F_X11_lasts N a1 a2 h = some (r, h) ∧ F_X12_lasts N a1 a2 h = some (r, hs h 103 0 0) := by
  obtain ⟨⟨L, S, Li, D, lo, hi, cn⟩, B, C, M⟩ := I
  have M0 : RN (L, S, Li, D, lo, hi, cn) (hs h 103 0 0) := by
    obtain ⟨m1, m2, m3, m4, m5⟩ := M
    refine ⟨?_, ?_, ?_, ?_, fun k hk => ?_⟩ <;> simp [hs_1] <;> first | assumption | exact m5 k hk
  unfold F_X11_lasts F_X12_lasts F_X12_lasts_b37 F_X11_lasts_b57 F_X7_daysLeft F_X7_leastBends F_X7_mostBends
  rw [hb_e, isPart_x hF2 (HM_0 HFm), HFc, nI_m1 (by omega), bI_s]
  cases g : wth a1 0 (nI (F - 2)) with
  | false =>
    refine ⟨-1, ?_, by simp⟩
    have : ¬ (¬ a1 < 0 ∧ a1 < nI (F - 1)) := fun q => by rw [(part_c hF2 hF).mpr q] at g; cases g
    by_cases g1 : a1 < 0
    · simp [g1]
    · have g2 : nI (F - 1) ≤ a1 := Int32.not_lt.mp (fun q => this ⟨g1, q⟩)
      simp [g1, g2]
  | true =>
    obtain ⟨g1, g2⟩ := (part_c hF2 hF).mp g
    obtain ⟨p, hp, rfl⟩ := part_n hF2 hF g
    have g3 : ¬ nI (F - 1) ≤ nI p := Int32.not_le.mpr g2
    have cb := fun m => bends_x B C (N := N) (p := p) (f := p) m hN (by omega) (by omega)
    have c0 := cb false
    have c1 := cb true
    have mb := fun m => bendsOf_x B M0 (N := N) (p := p) m hN (by omega)
    have m0 := mb false
    have m1 := mb true
    rw [if_neg (by decide)] at c0 m0
    rw [if_pos rfl] at c1 m1
    have m0' : F_X12_bendsOf N (nI p) (-1) (hs h 103 0 0) = some (iI (rbd L S lo hi cn p p false), hs h 103 0 0) := m0
    have m1' : F_X12_bendsOf N (nI p) 1 (hs h 103 0 0) = some (iI (rbd L S lo hi cn p p true), hs h 103 0 0) := m1
    have hl1 : h.1 99 5 = nI Li := C.2.2.1
    have hl2 : (hs h 103 0 0).1 103 80 = nI Li := M0.2.2.1
    have hd1 : h.1 99 6 = nI D := C.2.2.2.1
    have hd2 : (hs h 103 0 0).1 103 81 = nI D := M0.2.2.2.1
    have last : ∀ m : Bool, ∃ r, (if 0 < iI (rbd L S lo hi cn p p m) then if ¬ (iI (rbd L S lo hi cn p p m)).toInt64 = 0 then some (lmax (0 : Int64) (((nI Li - iI (rbd L S lo hi cn p p m)).toInt64 * (nI D).toInt64) / (iI (rbd L S lo hi cn p p m)).toInt64), h) else none else some ((-1 : Int64), h)) = some (r, h) ∧ (if iI (rbd L S lo hi cn p p m) = 0 then some ((-1 : Int64), hs h 103 0 0) else if iI (rbd L S lo hi cn p p m) < nI Li then if ¬ (iI (rbd L S lo hi cn p p m)).toInt64 = 0 then some (((nI Li - iI (rbd L S lo hi cn p p m)).toInt64 * (nI D).toInt64) / (iI (rbd L S lo hi cn p p m)).toInt64, hs h 103 0 0) else none else some ((0 : Int64), hs h 103 0 0)) = some (r, hs h 103 0 0) := by
      intro m
      have b1 := rbd_b B (p := p) (f := p) (m := m)
      have b2 := rbd_pos B (p := p) (f := p) (m := m)
      obtain ⟨n, hn⟩ := Int.eq_ofNat_of_zero_le b2
      rw [hn] at b1 ⊢
      rw [← iI_nat]
      have b4 : Li ≤ 999999 := B.2.2.2.1
      have b6 : D ≤ 9999 := B.2.2.2.2.2.1
      by_cases q : n = 0
      · subst q
        exact ⟨-1, by simp [nI_0], by simp [nI_0]⟩
      · have e1 : (0 : Int32) < nI n := nI_lt (a := 0) (by omega) (by omega)
        have e2 : ¬ nI n = 0 := nI_ne0 (by omega) (by omega)
        have e3 : (nI n).toInt64 = lN n := nI_l (by omega)
        have e4 : ¬ lN n = 0 := fun q2 => q ((lN_eq (b := 0) (by omega) (by omega)).mp q2)
        rw [e3]
        simp only [e1, e2, e4, if_true, if_false, not_false_eq_true]
        by_cases q2 : n < Li
        · have e5 : nI n < nI Li := nI_lt q2 (by omega)
          have hmul : (Li - n) * D ≤ 999999 * 9999 := Nat.mul_le_mul (by omega) b6
          rw [pk_sub (by omega), nI_l (by omega), nI_l (by omega), lN_mul, pk_lDiv (by omega) (by omega) (by omega)]
          refine ⟨lN ((Li - n) * D / n), ?_, by simp [e5]⟩
          congr 2
          unfold lmax
          have hdl : (Li - n) * D / n ≤ (Li - n) * D := Nat.div_le_self _ _
          by_cases q3 : lN ((Li - n) * D / n) < 0
          · exact absurd ((pk_lLT (a := (Li - n) * D / n) (b := 0) (by omega) (by omega)).mp q3) (Nat.not_lt_zero _)
          · rw [if_neg q3]
        · have e5 : ¬ nI n < nI Li := nI_nlt (by omega) (by omega)
          refine ⟨0, ?_, by simp [e5]⟩
          congr 2
          have hb : D * (n - Li) ≤ 9999 * 800000 := Nat.mul_le_mul b6 (by omega)
          have hx : (((nI Li - nI n).toInt64 * (nI D).toInt64) / lN n).toInt ≤ 0 := by
            have h1 : ((nI Li - nI n).toInt64).toInt = -((n - Li : Nat) : Int) := by rw [Int32.toInt_toInt64, pk_sub_toInt (by omega) (by omega)]; omega
            have h2 : ((nI D).toInt64).toInt = (D : Int) := by rw [Int32.toInt_toInt64, nI_toInt (by omega)]
            have h3 : ((nI Li - nI n).toInt64 * (nI D).toInt64).toInt = -((D * (n - Li) : Nat) : Int) := by
              rw [Int64.toInt_mul, h1, h2, Int.neg_mul, Int.mul_comm, ← Int.natCast_mul, Int.bmod_eq_of_le_mul_two (by omega) (by omega)]
            rw [Int64.toInt_div_of_ne_right _ _ (fun q4 => by
              have h5 := congrArg Int64.toInt q4
              rw [lN_toInt (by omega)] at h5
              have h6 : (-1 : Int64).toInt = -1 := by decide
              omega), h3, lN_toInt (by omega), Int.neg_tdiv]
            have := Int.tdiv_nonneg (a := ((D * (n - Li) : Nat) : Int)) (b := (n : Int)) (by omega) (by omega)
            omega
          unfold lmax
          by_cases q4 : ((nI Li - nI n).toInt64 * (nI D).toInt64) / lN n < 0
          · rw [if_pos q4]
          · rw [if_neg q4]
            rw [Int64.lt_iff_toInt_lt] at q4
            apply Int64.toInt_inj.mp
            have : (0 : Int64).toInt = 0 := by decide
            omega
    cases w : wth a2 0 1 with
    | false =>
      refine ⟨-1, ?_, by simp [within_x, bI_s, w]⟩
      by_cases q1 : a2 < 0
      · simp [g1, g3, q1]
      · have q2 : ¬ a2 ≤ 1 := fun q => by
          have := decide_eq_true (p := (0 : Int32) ≤ a2 ∧ a2 ≤ 1) ⟨Int32.not_lt.mp q1, q⟩
          rw [show wth a2 0 1 = decide ((0 : Int32) ≤ a2 ∧ a2 ≤ 1) from rfl, this] at w
          cases w
        simp [g1, g3, q1, q2]
    | true =>
      obtain ⟨n, n1, n2, rfl⟩ := wth_n (m := 0) (k := 1) (by decide) (by decide) w
      simp only [within_x, bI_s, bL_s, w, m0', m1', c0, c1, g1, g3, hl1, hl2, hd1, hd2]
      rcases (show n = 0 ∨ n = 1 by omega) with rfl | rfl
      · obtain ⟨r, k1, k2⟩ := last true
        have e0 : ¬ nI 0 < 0 := by decide
        have e1 : nI 0 ≤ 1 := by decide
        have e2 : nI 0 = 0 := rfl
        refine ⟨r, ?_, ?_⟩
        · rw [if_neg (by simp), if_neg (by simp), if_neg e0, if_pos e1, if_pos e2, k1]; rfl
        · rw [if_neg (by simp), if_neg (by simp), if_pos e2]; exact k2
      · obtain ⟨r, k1, k2⟩ := last false
        have e0 : ¬ nI 1 < 0 := by decide
        have e1 : nI 1 ≤ 1 := by decide
        have e2 : ¬ nI 1 = 0 := by decide
        refine ⟨r, ?_, ?_⟩
        · rw [if_neg (by simp), if_neg (by simp), if_neg e0, if_pos e1, if_neg e2, k1]; rfl
        · rw [if_neg (by simp), if_neg (by simp), if_neg e2]; exact k2
