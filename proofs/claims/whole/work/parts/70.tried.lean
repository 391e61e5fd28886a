/-! tried() on both sides -/
def StB (B : Nat) (h : PH) : Prop := ∃ K K', K ≤ B ∧ K' ≤ B ∧ StC K h ∧ StM K' h
section
variable {F N nv : Nat} {T : Nat → Int32 → Bool}
theorem StC_q {K : Nat} {h h' : PH} (S : StC K h) (e : ∀ a b, (a = 39 ∧ b = 13) ∨ a = 43 ∨ a = 40 → h'.1 a b = h.1 a b) : StC K h' := ⟨by rw [e 39 13 (by omega)]; exact S.1, fun i hi => by rw [e 43 i (by omega)]; exact S.2.1 i hi, fun i hi => by rw [e 40 i (by omega)]; exact S.2.2 i hi⟩
theorem StM_q {K : Nat} {h h' : PH} (S : StM K h) (e : ∀ a b, (a = 103 ∧ b = 50) ∨ a = 133 → h'.1 a b = h.1 a b) : StM K h' := ⟨by rw [e 103 50 (by omega)]; exact S.1, fun i hi => by rw [e 133 i (by omega)]; exact S.2 i hi⟩
theorem isBut_y {j : Nat} {h : PH} (hF : F ≤ 6) (C : HC F h) (hj : j ≤ F) : F_X4_isButton (bu j) h = some (1, h) := by
  unfold F_X4_isButton F_X4_isButton_b17
  rw [C]
  cases j with
  | zero => rw [if_neg (show ¬ bu 0 < -1 by decide), if_neg (show ¬ nI F ≤ bu 0 from fun z => absurd (Int32.le_trans (nI_pos' (n := F) (by omega)) z) (by decide))]
  | succ k => rw [if_neg (show ¬ bu (k + 1) < -1 from n_le_m1 (by omega)), if_neg (show ¬ nI F ≤ bu (k + 1) from nI_ge (by omega) (by omega))]
theorem isBut_n {a : Int32} {h : PH} (C : HC F h) (n1 : a < -1 ∨ nI F ≤ a) : F_X4_isButton a h = some (0, h) := by
  unfold F_X4_isButton F_X4_isButton_b17
  rw [C]
  rcases n1 with n1 | n1
  · rw [if_pos n1]
  · by_cases z : a < -1
    · rw [if_pos z]
    · rw [if_neg z, if_pos n1]
def TrS : List Nat := [42, 43, 131, 133]
def TrK : List (Nat × Nat) := [(39, 1), (39, 12), (39, 13), (103, 0), (103, 50), (132, 0), (132, 1)]
theorem P_tried {B : Nat} {h : PH} (hN : 5000 ≤ N) (hF0 : 0 < F) (hF : F ≤ 6) (hB : B + 1 < 4294967296) (C : HC F h) (M : HM F h) (S : GsI F T h) (SB : StB B h) (a b : Int32) : ∃ r h1 h2, F_X11_tried N a b h = some (r, h1) ∧ F_X12_tried N a b h1 = some (r, h2) ∧ GsI F T h2 ∧ StB (B + 1) h2 ∧ fq TrS TrK h h2 := by
  have G := qAll_G (T := T) hF0
  have XX := qAll_X (T := T) hF0 hF
  have ql := QD_le G.1 hF
  have ff : fq TrS TrK h (hs h 103 0 0) := fq_s fq_0 (Or.inr (by decide))
  have M0 : HM F (hs h 103 0 0) := by unfold HM; simp [hs_1]; exact M
  have e46 : (hs h 103 0 0).1 103 46 = h.1 103 46 := by simp [hs_1]
  obtain ⟨K, K', k1, k2, sc, sm⟩ := SB
  have two : (F_X11_tried N a b h = some (-1, h) ∧ F_X12_tried N a b h = some (-1, hs h 103 0 0)) → ∃ r h1 h2, F_X11_tried N a b h = some (r, h1) ∧ F_X12_tried N a b h1 = some (r, h2) ∧ GsI F T h2 ∧ StB (B + 1) h2 ∧ fq TrS TrK h h2 := fun ⟨y1, y2⟩ => ⟨-1, h, _, y1, y2, Gs_0 hF0 hF S, ⟨K, K', by omega, by omega, StC_q sc (fun a b z => by rw [hs_1, if_neg (by omega)]), StM_q sm (fun a b z => by rw [hs_1]; by_cases y : a = 103 <;> simp [y]; omega)⟩, ff⟩
  rcases S with ⟨s1, s2⟩ | ⟨D, s1, s2, Ka, U, HD, Hc, Hm, -⟩
  · apply two
    constructor
    · unfold F_X11_tried; rw [if_pos s1]
    · unfold F_X12_tried; rw [hb_e, e46, if_pos s2]
  · have dl := HdD_le HD
    have n1 : ¬ h.1 39 0 = 0 := by rw [s1]; decide
    have n2 : ¬ h.1 103 46 = 0 := by rw [s2]; decide
    rcases bu_x hF a with ⟨j, hj, rfl, ja, jf⟩ | ⟨b1, b2, b3⟩
    · have mb : ∀ k : PH, HM F k → k.1 103 46 = h.1 103 46 → F_X12_tried N (bu j) b k = (fun k => F_X12_tried N (bu j) b k) k := fun _ _ _ => rfl
      have m25 : ∀ k : PH, HM F (hs k 103 0 0) → k.1 103 46 = 1 → F_X12_tried N (bu j) b k = F_X12_tried_b25 N (bu j) b (hs k 103 0 0) := by
        intro k hk h46
        unfold F_X12_tried
        rw [hb_e, show (hs k 103 0 0).1 103 46 = 1 by simp [hs_1]; exact h46, if_neg one10]
        by_cases z : j = 0
        · rw [if_pos (ja.mpr z)]
        · rw [if_neg (fun y => z (ja.mp y)), isFloorM_x hk, bI_s, if_pos (jf (by omega)), if_neg one10]
      by_cases g : wth b 0 255 = true
      · obtain ⟨l, hl, rfl⟩ := wth_0n (k := 255) (by omega) g
        -- the class
        generalize hk0 : hs (hs h 39 12 0) 39 13 (nI (K + 1)) = h0
        have f0 : fq TrS TrK h h0 := by rw [← hk0]; exact fq_s (fq_s fq_0 (Or.inr (by decide))) (Or.inr (by decide))
        have c0 : ∀ a b, a ≠ 39 → h0.1 a b = h.1 a b := fun a b z => by rw [← hk0, hs_1, if_neg z, hs_1, if_neg z]
        obtain ⟨v, h1, e1, rfl, H1, m1, f1⟩ := fol20 (N := N) (K := K + 1) (l := l) hF G XX hj (by omega) HD N 0 h0 (Nat.zero_le _) (by omega) (AC_q Ka.2.1 (fun a b z => by
          by_cases y : a = 39
          · omega
          · exact c0 a b y)) (fun a b c d e => by rw [c0 36 _ (by decide)]; exact Ka.2.2.1 a b c d e) (by rw [← hk0]; simp [hs_1]; exact Hc.1) (by rw [← hk0]; simp [hs_1]) (fun i hi => by
          rw [c0 43 i (by decide)]
          obtain ⟨m, hm, e⟩ := sc.2.1 i hi
          exact ⟨m, by omega, e⟩) (fun y hy => by
          rw [c0 43 y (by decide)]
          obtain ⟨m, hm, e⟩ := sc.2.1 y (by omega)
          rw [e, nI_e32 (by omega) (by omega)]
          simp [flw]
          omega) (fun u hu => by simp [flw] at hu) (fun u _ hu => by rw [c0 42 u (by decide)]; exact Hc.2 u hu)
        have cC : F_X11_tried N (bu j) (nI l) h = some (nI (flw F T (qAll F T) j l D D.length).length, h1) := by
          unfold F_X11_tried
          rw [if_neg n1, isBut_y hF C hj, bI_s, if_neg one10, areLamps_x, bI_s, if_pos g, if_neg one10, Int32.add_comm, bu_1]
          unfold F_X3_follow
          rw [hb_e, show (hs h 39 12 0).1 39 13 = nI K by simp [hs_1]; exact sc.1, nI_1, hb_e, hk0, show F_X3_follow_b20 N N (nI j) (nI l) 0 0 h0 = _ from e1, bI_s]
        have f01 : fq TrS TrK h h1 := fq_t f0 (fq_w f1 (by simp [TrS]) (by simp [TrK]))
        have hi1 : ∀ a b, 103 ≤ a → h1.1 a b = h.1 a b := fun a b z => by rw [f1 a b (by simp; omega) (by simp; omega), c0 a b (by omega)]
        -- the reference
        have M1 : HM F (hs h1 103 0 0) := by unfold HM; simp [hs_1]; rw [hi1 103 1 (by omega)]; exact M
        have hi2 : ∀ a b, 103 ≤ a → (a, b) ≠ (103, 0) → (hs h1 103 0 0).1 a b = h.1 a b := fun a b z y => by
          rw [hs_1]
          by_cases c : a = 103
          · rw [if_pos c, if_neg (fun d => y (by rw [c, d])), hi1 a b z]
          · rw [if_neg c, hi1 a b z]
        have U1 : AuK F T (hs h1 103 0 0) := AuK_q U (fun a b z => hi2 a b (by omega) (by simp; omega))
        have Hm1 : HdM (qAll F T) (3072 * 0) 0 D (hs h1 103 0 0) := ⟨by rw [hi2 132 0 (by omega) (by simp)]; exact Hm.1, fun t ht => by rw [hi2 131 _ (by omega) (by simp)]; exact Hm.2 t ht⟩
        have Sm1 : StM K' (hs h1 103 0 0) := StM_q sm (fun a b z => hi2 a b (by omega) (by simp; omega))
        have gt : F_X12_goesThrough N (hs h1 103 0 0) = some (hs h1 103 0 0) := by
          unfold F_X12_goesThrough
          rw [if_neg (by rw [U1.1]; decide)]
        obtain ⟨h3, e3, H3, S3, -, f3⟩ := narrows_x (N := N) (l := l) hN hF G XX hj (by omega) (by omega : 0 < 3) (by omega) HD U1.2.1 U1.2.2 Hm1 Sm1
        obtain ⟨w1, w2, -⟩ := flw_ok (T := T) (l := l) XX hj HD D.length (Nat.le_refl _)
        obtain ⟨v, h4, e4, rfl, H4, f4⟩ := tr51 (N := N) (q := qAll F T) (by omega) N 0 h3 (Nat.zero_le _) (by omega) H3 (fun u hu => by omega)
        have lo : ∀ a b, a < 103 → h4.1 a b = h1.1 a b := fun a b z => by
          rw [f4 a b (by simp; omega) (by simp; omega), f3 a b (by simp; omega) (by simp; omega), hs_1, if_neg (by omega)]
        refine ⟨_, h1, h4, cC, ?_, Or.inr ⟨_, ?_, ?_, ?_, ?_, w1, ⟨?_, fun t ht => ?_⟩, H4, Or.inl ?_⟩, ⟨K + 1, K' + 1, by omega, by omega, ⟨?_, fun i hi => ?_, fun i hi => ?_⟩, ?_⟩, ?_⟩
        · rw [m25 h1 M1 (by rw [hi1 103 46 (by omega)]; exact s2)]
          unfold F_X12_tried_b25
          rw [within_x, bI_s, if_pos g, if_neg one10, gt, bV_s, show F_X12_narrows N 0 (bu j) (nI l) (hs h1 103 0 0) = _ from e3, bV_s]
          exact e4
        · rw [lo 39 0 (by omega), f1 39 0 (by simp) (by simp), ← hk0]; simp [hs_1]; exact s1
        · rw [f4 103 46 (by simp) (by simp), f3 103 46 (by simp) (by simp), hi2 103 46 (by omega) (by simp)]; exact s2
        · exact AtK_q Ka hF (fun a b z => by rw [lo a b (by omega), f1 a b (by simp; omega) (by simp; omega), c0 a b (by omega)])
        · exact AuK_q U1 (fun a b z => by rw [f4 a b (by simp; omega) (by simp; omega), f3 a b (by simp; omega) (by simp; omega)])
        · rw [lo 39 1 (by omega)]; exact H1.1
        · rw [lo 42 t (by omega)]; exact H1.2 t ht
        · rw [lo 39 12 (by omega), f1 39 12 (by simp) (by simp), ← hk0]; simp [hs_1]
        · rw [lo 39 13 (by omega), f1 39 13 (by simp) (by simp), ← hk0]; simp [hs_1]
        · rw [lo 43 i (by omega)]; exact m1 i hi
        · rw [lo 40 i (by omega), f1 40 i (by simp) (by simp), c0 40 i (by decide)]
          obtain ⟨m, hm, e⟩ := sc.2.2 i hi
          exact ⟨m, by omega, e⟩
        · exact StM_q S3 (fun a b z => f4 a b (by simp; omega) (by simp; omega))
        · exact fq_t f01 (fq_t (fq_s fq_0 (Or.inr (by decide))) (fq_t (fq_w f3 (by simp [TrS]) (by simp [TrK])) (fq_w f4 (by simp [TrS]) (by simp [TrK]))))
      · apply two
        constructor
        · unfold F_X11_tried
          rw [if_neg n1, isBut_y hF C hj, bI_s, if_neg one10, areLamps_x, bI_s, if_neg g, if_pos rfl]
        · rw [m25 h M0 s2]
          unfold F_X12_tried_b25
          rw [within_x, bI_s, if_neg g, if_pos rfl]
    · apply two
      constructor
      · unfold F_X11_tried
        rw [if_neg n1, isBut_n C b1, bI_s, if_pos rfl]
      · unfold F_X12_tried
        rw [hb_e, e46, if_neg n2, if_neg b2, isFloorM_x M0, bI_s, b3, if_pos (by decide)]
end
