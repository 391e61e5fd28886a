/-! press, again, look -/
def NwS (F : Nat) (s : Nat × Nat × Nat) (h : PH) : Prop := OkS F s ∧ h.1 14 2 = nI (csN s) ∧ h.1 103 33 = nI (msN s) ∧ h.1 14 3 = h.1 103 34 ∧ h.1 14 4 = h.1 103 35
def NwI (F : Nat) (h : PH) : Prop := ∃ s, NwS F s h
theorem NwI_0 {F : Nat} {h : PH} (hF : 0 < F) (S : St0 h) : NwI F h := by
  obtain ⟨a1, a2, a3, a4, a5, a6, a7, a8, a9, a10, a11, a12⟩ := S
  exact ⟨(0, 0, 0), ⟨by simp, hF, by simp⟩, a1, a8, by rw [a2, a9], by rw [a3, a10]⟩
theorem NwI_q {F : Nat} {h h' : PH} (W : NwI F h) (e : ∀ a b, (a = 14 ∧ 2 ≤ b ∧ b ≤ 4) ∨ (a = 103 ∧ 33 ≤ b ∧ b ≤ 35) → h'.1 a b = h.1 a b) : NwI F h' := by
  obtain ⟨s, w1, w2, w3, w4, w5⟩ := W
  refine ⟨s, w1, ?_, ?_, ?_, ?_⟩
  · rw [e 14 2 (by omega)]; exact w2
  · rw [e 103 33 (by omega)]; exact w3
  · rw [e 14 3 (by omega), e 103 34 (by omega)]; exact w4
  · rw [e 14 4 (by omega), e 103 35 (by omega)]; exact w5
theorem bu_x {F : Nat} (hF : F ≤ 6) (a : Int32) : (∃ j, j ≤ F ∧ a = bu j ∧ (a = -1 ↔ j = 0) ∧ (0 < j → isF F a = true)) ∨ (a < -1 ∨ nI F ≤ a) ∧ a ≠ -1 ∧ isF F a = false := by
  by_cases h0 : a = -1
  · exact Or.inl ⟨0, Nat.zero_le _, h0, by simp [h0], fun z => by omega⟩
  · by_cases h1 : a < 0
    · refine Or.inr ⟨Or.inl ?_, h0, ?_⟩
      · rw [Int32.lt_iff_toInt_lt] at h1 ⊢
        have e : a.toInt ≠ (-1 : Int32).toInt := fun z => h0 (Int32.toInt_inj.mp z)
        have q0 : (0 : Int32).toInt = 0 := by decide
        have q1 : (-1 : Int32).toInt = -1 := by decide
        omega
      · unfold isF; simp; intro z; exact absurd h1 (Int32.not_lt.mpr z)
    · obtain ⟨k, hk, rfl⟩ := nI_of h1
      by_cases h2 : k < F
      · exact Or.inl ⟨k + 1, by omega, rfl, ⟨fun z => absurd z h0, fun z => by omega⟩, fun _ => isF_k h2 (by omega)⟩
      · refine Or.inr ⟨Or.inr (nI_le (by omega) hk), h0, ?_⟩
        unfold isF
        simp
        intro _
        exact nI_le (by omega) hk
def PrS : List Nat := 20 :: MvS
def PrK : List (Nat × Nat) := [(14, 2), (14, 3), (14, 4), (103, 0), (103, 33), (103, 34), (103, 35), (103, 36)]
section
variable {F N nv : Nat} {T : Nat → Int32 → Bool} {s : Nat × Nat × Nat}
theorem tickC {j : Nat} {h : PH} (hN : 5000 ≤ N) (L : LnT T nv h) (C : HC F h) (W : NwS F s h) (hF : F ≤ 6) (hj : j ≤ F) : okI (F_X4_tick N (bu j) h) (fun v h' => v = nI (lmp T (nxt F T s j).1) ∧ h'.1 14 2 = nI (csN (nxt F T s j).1) ∧ h'.1 14 3 = h.1 14 3 + nI (nxt F T s j).2 ∧ h'.1 14 4 = h.1 14 4 + 1 ∧ fq [20] [(14, 2), (14, 3), (14, 4)] h h') := by
  obtain ⟨o, w2, -⟩ := W
  unfold F_X4_tick
  rw [w2]
  obtain ⟨v, h1, e1, rfl, f1⟩ := stepC hN L C o hF hj
  rw [e1, bI_s]
  obtain ⟨o2, hb2⟩ := nxt_ok (F := F) (T := T) (s := s) (j := j) o
  generalize nxt F T s j = w at o2 hb2 ⊢
  obtain ⟨s2, b⟩ := w
  have lt := cs_lt o2 hF
  have L1 : LnT T nv h1 := LnT_20 L f1
  have b28 : ∀ k : PH, fq [] [(14, 3)] h1 k → okI (F_X4_tick_b28 N (nI (csN s2 + 4096 * b)) k) (fun v h' => v = nI (lmp T s2) ∧ h'.1 14 2 = nI (csN s2) ∧ h'.1 14 3 = k.1 14 3 ∧ h'.1 14 4 = h.1 14 4 + 1 ∧ fq [20] [(14, 2), (14, 3), (14, 4)] h h') := by
    intro k fk
    have b2 : b < 2 := hb2
    unfold F_X4_tick_b28
    simp only [hb_e]
    rw [st3 (by have : csN s2 < 4096 := lt; omega), show (csN s2 + 4096 * b) % 4096 = csN s2 by have : csN s2 < 4096 := lt; omega]
    have e : (hs (hs k 14 4 (k.1 14 4 + 1)) 14 2 (nI (csN s2))).1 14 2 = nI (csN s2) := by simp [hs_1]
    rw [e]
    have f2 : fq [20] [(14, 2), (14, 3), (14, 4)] h (hs (hs k 14 4 (k.1 14 4 + 1)) 14 2 (nI (csN s2))) := fq_t (fq_fr f1) (fq_s (fq_s (fq_w fk (by simp) (by simp)) (Or.inr (by decide))) (Or.inr (by decide)))
    have L2 : LnT T nv (hs (hs k 14 4 (k.1 14 4 + 1)) 14 2 (nI (csN s2))) := LnT_q L (fun a b p => f2 a b (by unfold LnP at p; simp; omega) (by unfold LnP at p; simp; omega))
    refine okI_bI (okI_m (lampsC hN L2 o2 hF) (fun v k2 q => okI_s ⟨q.1, ?_, ?_, ?_, fq_t f2 (fq_fr q.2)⟩))
    · rw [q.2 14 (by simp)]; exact e
    · rw [q.2 14 (by simp)]; simp [hs_1]
    · rw [q.2 14 (by simp)]; simp [hs_1]; rw [fk 14 4 (by simp) (by simp), f1 14 (by simp)]
  by_cases g : b = 0
  · subst g
    rw [if_pos ((st2 (by omega)).mpr (by have : csN s2 < 4096 := lt; show (csN s2 + 4096 * 0) / 4096 % 2 = 0; omega))]
    refine okI_m (b28 h1 fq_0) (fun v k q => ⟨q.1, q.2.1, ?_, q.2.2.2⟩)
    rw [q.2.2.1, f1 14 (by simp)]
    simp [nI_0]
  · have g1 : b = 1 := by have : b < 2 := hb2; omega
    subst g1
    rw [if_neg (fun z => by have := (st2 (by omega)).mp z; have : csN s2 < 4096 := lt; omega), hb_e]
    refine okI_m (b28 _ (fq_s fq_0 (Or.inr (by decide)))) (fun v k q => ⟨q.1, q.2.1, ?_, q.2.2.2⟩)
    rw [q.2.2.1]
    simp [hs_1]
    rw [f1 14 (by simp)]
    rfl
theorem P_press {h : PH} (hN : 5000 ≤ N) (hF : F ≤ 6) (C : HC F h) (M : HM F h) (L : LnT T nv h) (W : NwI F h) (a : Int32) : ∃ r h1 h2, F_X11_press N a h = some (r, h1) ∧ F_X12_press N a h1 = some (r, h2) ∧ NwI F h2 ∧ fq PrS PrK h h2 := by
  obtain ⟨s, W⟩ := W
  rcases bu_x hF a with ⟨j, hj, rfl, ja, jf⟩ | ⟨n1, n2, n3⟩
  · have ib : F_X4_isButton (bu j) h = some (1, h) := by
      unfold F_X4_isButton F_X4_isButton_b17
      rw [C]
      cases j with
      | zero => rw [if_neg (show ¬ bu 0 < -1 by decide), if_neg (show ¬ nI F ≤ bu 0 from fun z => absurd (Int32.le_trans (nI_pos' (n := F) (by omega)) z) (by decide))]
      | succ k => rw [if_neg (show ¬ bu (k + 1) < -1 from n_le_m1 (by omega)), if_neg (show ¬ nI F ≤ bu (k + 1) from nI_ge (by omega) (by omega))]
    obtain ⟨v, h1, e1, rfl, q2, q3, q4, f1⟩ := tickC hN L C W hF hj
    have f1' : fq PrS PrK h h1 := fq_w f1 (by simp [PrS]) (by simp [PrK])
    obtain ⟨o, w2, w3, w4, w5⟩ := W
    refine ⟨nI (lmp T (nxt F T s j).1), h1, ?_⟩
    have mp : ∃ h2, F_X12_press_b20 N (bu j) (hs h1 103 0 0) = some (nI (lmp T (nxt F T s j).1), h2) ∧ NwI F h2 ∧ fq PrS PrK h h2 := by
      unfold F_X12_press_b20
      have f1z : fq PrS PrK h (hs h1 103 0 0) := fq_s f1' (Or.inr (by decide))
      have L1 : LnT T nv (hs h1 103 0 0) := LnT_q L (fun a b p => f1z a b (by unfold LnP at p; simp [PrS, MvS]; omega) (by unfold LnP at p; simp [PrK]; omega))
      have M1 : HM F (hs h1 103 0 0) := by
        unfold HM
        rw [f1z 103 1 (by simp [PrS, MvS]) (by simp [PrK])]
        exact M
      have s3 : (hs h1 103 0 0).1 103 33 = nI (msN s) := by
        simp [hs_1]; rw [f1 103 33 (by simp) (by simp)]; exact w3
      rw [s3]
      obtain ⟨v, h2, e2, rfl, b2, f2⟩ := behindM hN L1 M1 o hF hj
      rw [e2, bI_s]
      simp only [hb_e]
      have o2 := (nxt_ok (F := F) (T := T) (s := s) (j := j) o).1
      generalize nxt F T s j = w at *
      obtain ⟨s2, b⟩ := w
      have f2' : fq PrS PrK h h2 := fq_t f1z (fq_w f2 (by simp [PrS, MvS]) (by simp [PrK, MvK]))
      generalize hk : hs (hs (hs h2 103 33 (nI (msN s2))) 103 34 ((hs h2 103 33 (nI (msN s2))).1 103 34 + (hs h2 103 33 (nI (msN s2))).1 103 36)) 103 35 ((hs (hs h2 103 33 (nI (msN s2))) 103 34 ((hs h2 103 33 (nI (msN s2))).1 103 34 + (hs h2 103 33 (nI (msN s2))).1 103 36)).1 103 35 + 1) = k
      have fk : fq PrS PrK h k := by
        rw [← hk]
        exact fq_s (fq_s (fq_s f2' (Or.inr (by decide))) (Or.inr (by decide))) (Or.inr (by decide))
      have k33 : k.1 103 33 = nI (msN s2) := by rw [← hk]; simp [hs_1]
      have k34 : k.1 103 34 = h.1 103 34 + nI b := by
        rw [← hk]; simp [hs_1]
        rw [b2, f2 103 34 (by simp [MvS]) (by simp [MvK])]
        simp [hs_1]
        rw [f1 103 34 (by simp) (by simp)]
      have k35 : k.1 103 35 = h.1 103 35 + 1 := by
        rw [← hk]; simp [hs_1]
        rw [f2 103 35 (by simp [MvS]) (by simp [MvK])]
        simp [hs_1]
        rw [f1 103 35 (by simp) (by simp)]
      have k14 : ∀ c, k.1 14 c = h1.1 14 c := fun c => by
        rw [← hk]; simp [hs_1]
        rw [f2 14 c (by simp [MvS]) (by simp [MvK])]
        simp [hs_1]
      have Lk : LnT T nv k := LnT_q L (fun a b p => fk a b (by unfold LnP at p; simp [PrS, MvS]; omega) (by unfold LnP at p; simp [PrK]; omega))
      rw [k33]
      obtain ⟨v, h4, e4, rfl, f4⟩ := lampsM hN Lk o2 hF
      rw [e4, bI_s]
      refine ⟨h4, rfl, ⟨s2, o2, ?_, ?_, ?_, ?_⟩, fq_t fk (fq_w f4 (by simp [PrS, MvS]) (by simp [PrK, MvK]))⟩
      · rw [f4 14 2 (by simp [MvS]) (by simp [MvK]), k14, q2]
      · rw [f4 103 33 (by simp [MvS]) (by simp [MvK]), k33]
      · rw [f4 14 3 (by simp [MvS]) (by simp [MvK]), f4 103 34 (by simp [MvS]) (by simp [MvK]), k14, k34, q3, w4]
      · rw [f4 14 4 (by simp [MvS]) (by simp [MvK]), f4 103 35 (by simp [MvS]) (by simp [MvK]), k14, k35, q4, w5]
    obtain ⟨h2, e2, W2, f2⟩ := mp
    refine ⟨h2, ?_, ?_, W2, f2⟩
    · unfold F_X11_press
      rw [ib, bI_s, if_neg (by decide), e1, bI_s]
    · unfold F_X12_press
      rw [hb_e]
      by_cases z : j = 0
      · rw [if_pos (ja.mpr z)]; exact e2
      · have M1 : HM F (hs h1 103 0 0) := by
          unfold HM
          simp [hs_1]
          rw [f1 103 1 (by simp) (by simp)]
          exact M
        rw [if_neg (fun y => z (ja.mp y)), isFloorM_x M1, bI_s, if_pos (jf (by omega)), if_neg (by decide)]
        exact e2
  · have ib : F_X4_isButton a h = some (0, h) := by
      unfold F_X4_isButton F_X4_isButton_b17
      rw [C]
      rcases n1 with n1 | n1
      · rw [if_pos n1]
      · by_cases z : a < -1
        · rw [if_pos z]
        · rw [if_neg z, if_pos n1]
    have M1 : HM F (hs h 103 0 0) := by
      unfold HM
      simp [hs_1]
      exact M
    refine ⟨-1, h, hs h 103 0 0, ?_, ?_, ?_, fq_s fq_0 (Or.inr (by decide))⟩
    · unfold F_X11_press
      rw [ib, bI_s, if_pos rfl]
    · unfold F_X12_press
      rw [hb_e, if_neg n2, isFloorM_x M1, bI_s, n3, if_pos (by decide)]
    · exact NwI_q ⟨s, W⟩ (fun a b q => by rw [hs_1]; by_cases z : a = 103 <;> simp [z]; intro y; omega)
theorem P_again {h : PH} (hF : 0 < F) : ∃ r h1 h2, F_X11_again h = some (r, h1) ∧ F_X12_again h1 = some (r, h2) ∧ NwI F h2 ∧ fq PrS PrK h h2 := by
  refine ⟨1, _, _, rfl, rfl, ⟨(0, 0, 0), ⟨by simp, hF, by simp⟩, ?_⟩, ?_⟩
  · simp [hs_1, csN, msN]
    rfl
  · exact fq_s (fq_s (fq_s (fq_s (fq_s (fq_s (fq_s fq_0 (Or.inr (by decide))) (Or.inr (by decide))) (Or.inr (by decide))) (Or.inr (by decide))) (Or.inr (by decide))) (Or.inr (by decide))) (Or.inr (by decide))
end
