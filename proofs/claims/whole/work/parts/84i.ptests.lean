/-! tests() on both sides -/
section
variable {F N nv : Nat} {T : Nat → Int32 → Bool} {q : List ((Nat × Nat × Nat) × Nat × Nat × Nat)} {h h' h2 : PH}
theorem telM_ok (hN : 5000 ≤ N) (hF0 : 0 < F) (hF : F ≤ 6) (G : QG F q) (XX : XF F T q.length 0 q) : ∀ left, left ≤ 2 → TelM F T q N left 8 := by
  intro left hl
  have : left = 0 ∨ left = 1 ∨ left = 2 := by omega
  rcases this with rfl | rfl | rfl
  · exact telM_s (P := 7) hN hF G XX (by omega) (told_0 (P := 6) hN hF0 hF G)
  · exact telM_s (P := 7) hN hF G XX (by omega) (told_s (P := 6) hN hF G (by omega) (telM_s (P := 5) hN hF G XX (by omega) (told_0 (P := 4) hN hF0 hF G)))
  · exact telM_s (P := 7) hN hF G XX (by omega) (told_s (P := 6) hN hF G (by omega) (telM_s (P := 5) hN hF G XX (by omega) (told_s (P := 4) hN hF G (by omega) (telM_s (P := 3) hN hF G XX (by omega) (told_0 (P := 2) hN hF0 hF G)))))
theorem te_63 {k : Nat} {what : Int32} {D : List Nat} {rc : Int32 → Int32 → PH → Option (Int32 × PH)} (hN : 5000 ≤ N) (hF0 : 0 < F) (hF : F ≤ 6) (G : QG F q) (XX : XF F T q.length 0 q) (hk : 1 ≤ k) (hk3 : k ≤ 3) {B : Nat} {h0 : PH} (A : AM F T q h0) (X : XM F T q.length 0 q h0) (M : HM F h0) (HD : HdD q.length D) (Hm : HdM q 0 0 D h0) (hB : B + 7 * (1 + dS (k - 1) * D.length) < 4294967296) : ∀ m j fuel h, j + m = F + 1 → m < fuel → (∀ i, i < j → ¬ tTel F T q k (inD D) i) → SMB (B + j * (1 + dS (k - 1) * D.length)) h → TmF 0 h0 h → ∃ h', (((∀ i, i ≤ F → ¬ tTel F T q k (inD D) i) ∧ F_X12_tests_b63 N rc fuel what (nI k) (bu j) h = rc what (nI (k + 1)) h') ∨ ∃ i, i ≤ F ∧ tTel F T q k (inD D) i ∧ (∀ i', i' < i → ¬ tTel F T q k (inD D) i') ∧ F_X12_tests_b63 N rc fuel what (nI k) (bu j) h = F_X12_tests_b83 N what (nI k) (bu i) h') ∧ SMB (B + 7 * (1 + dS (k - 1) * D.length)) h' ∧ TmF 0 h0 h' := by
  intro m
  induction m with
  | zero =>
    intro j fuel h p1 p2 p3 p4 p5
    obtain ⟨fu, rfl⟩ : ∃ g, fuel = g + 1 := ⟨fuel - 1, by omega⟩
    have jF : bu j = nI F := by rw [show j = F + 1 by omega]; rfl
    have : j * (1 + dS (k - 1) * D.length) ≤ 7 * (1 + dS (k - 1) * D.length) := Nat.mul_le_mul_right _ (by omega)
    refine ⟨h, Or.inl ⟨fun i hi => p3 i (by omega), ?_⟩, SMB_w p4 (by omega), p5⟩
    rw [F_X12_tests_b63, p5 103 1 (by omega), show h0.1 103 1 = nI F from M, jF, if_pos (nI_le (Nat.le_refl _) (by omega))]
    unfold F_X12_tests_b101
    rw [ib_e, nI_1]
  | succ m ih =>
    intro j fuel h p1 p2 p3 p4 p5
    obtain ⟨fu, rfl⟩ : ∃ g, fuel = g + 1 := ⟨fuel - 1, by omega⟩
    have jb : (j + 1) * (1 + dS (k - 1) * D.length) ≤ 7 * (1 + dS (k - 1) * D.length) := Nat.mul_le_mul_right _ (by omega)
    rw [Nat.succ_mul] at jb
    have M1 : HM F h := by unfold HM; rw [p5 103 1 (by omega)]; exact M
    have dl := HdD_le HD
    have ql := QD_le G.1 hF
    have Hm1 : HdM q (3072 * 0) 0 D h := ⟨by rw [p5 132 0 (by omega)]; exact Hm.1, fun t ht => by rw [p5 131 _ (by omega)]; exact Hm.2 t ht⟩
    obtain ⟨r, h2, x1, x2, x3, x4⟩ := telM_ok hN hF0 hF G XX (k - 1) (by omega) 0 j D _ h (by omega) (by omega) (by omega) (AM_w A p5) (XM_w X p5) M1 HD Hm1 p4
    have nj : ¬ nI F ≤ bu j := by
      cases j with
      | zero => exact fun z => absurd (Int32.le_trans (nI_pos' (n := F) (by omega)) z) (by decide)
      | succ i => exact nI_ge (by omega) (by omega)
    have x2' : (r = 1 ∧ tTel F T q k (inD D) j) ∨ (r = 0 ∧ ¬ tTel F T q k (inD D) j) := x2
    have eq : F_X12_tests_b63 N rc (fu + 1) what (nI k) (bu j) h = if r = 0 then F_X12_tests_b63 N rc fu what (nI k) (bu (j + 1)) h2 else F_X12_tests_b83 N what (nI k) (bu j) h2 := by
      rw [F_X12_tests_b63, show h.1 103 1 = nI F from M1, if_neg nj, nI_m1 (by omega)]
      unfold G_X12_tells
      rw [show (0 : Int32) = nI 0 from rfl, x1, bI_s, ib_e, bu_1]
      rfl
    rcases x2' with ⟨rfl, x2'⟩ | ⟨rfl, x2'⟩
    · exact ⟨h2, Or.inr ⟨j, by omega, x2', p3, by rw [eq, if_neg one10]⟩, SMB_w x3 (by omega), TmF_t p5 x4⟩
    · obtain ⟨h', y1, y2, y3⟩ := ih (j + 1) fu h2 (by omega) (by omega) (fun i hi => by
        by_cases z : i = j
        · rw [z]; exact x2'
        · exact p3 i (by omega)) (SMB_w x3 (by rw [Nat.succ_mul]; omega)) (TmF_t p5 x4)
      rw [if_pos rfl] at eq
      rw [← eq] at y1
      exact ⟨h', y1, y2, y3⟩
/-- by what the class found the reference answers alike -/
theorem testsM_x {D : List Nat} {x y what : Int32} {B : Nat} (hN : 5000 ≤ N) (hF0 : 0 < F) (hF : F ≤ 6) (A : AM F T (qAll F T) h) (X : XM F T (qAll F T).length 0 (qAll F T) h) (M : HM F h) (HD : HdD (qAll F T).length D) (Hm : HdM (qAll F T) 0 0 D h) (SB : SMB B h) (hB : B + 3000000 < 4294967296) (PR : PlR F T (qAll F T) (inD D) x y) (no : ¬ tOne (qAll F T) (inD D)) : ∃ h', F_X12_tests_b56 N N what 1 h = some (if what = 0 then x else y, h') ∧ SMB (B + 3000000) h' ∧ TmF 0 h h' := by
  have G := qAll_G (T := T) hF0
  have XX := qAll_X (T := T) hF0 hF
  have dl := HdD_le HD
  have ql := QD_le G.1 hF
  obtain ⟨N', hN'⟩ : ∃ n, N = n + 4 := ⟨N - 4, by omega⟩
  have c1 : dS (1 - 1) * D.length = D.length := by show 1 * D.length = _; rw [Nat.one_mul]
  have c2 : dS (2 - 1) * D.length = 15 * D.length := rfl
  have c3 : dS (3 - 1) * D.length = 113 * D.length := rfl
  -- one number of ticks
  have st : ∀ (k fu : Nat) (k1 : PH) (B1 : Nat), 1 ≤ k → k ≤ 3 → B1 + 7 * (1 + dS (k - 1) * D.length) < 4294967296 → SMB B1 k1 → TmF 0 h k1 → ∃ h', (((∀ i, i ≤ F → ¬ tTel F T (qAll F T) k (inD D) i) ∧ F_X12_tests_b56 N (fu + 1) what (nI k) k1 = F_X12_tests_b56 N fu what (nI (k + 1)) h') ∨ ∃ i, i ≤ F ∧ tTel F T (qAll F T) k (inD D) i ∧ (∀ i', i' < i → ¬ tTel F T (qAll F T) k (inD D) i') ∧ F_X12_tests_b56 N (fu + 1) what (nI k) k1 = some (if what = 0 then nI k else nI i, h')) ∧ SMB (B1 + 7 * (1 + dS (k - 1) * D.length)) h' ∧ TmF 0 h h' := fun k fu k1 B1 a1 a2 a3 a4 a5 => by
    obtain ⟨h', w1, w2, w3⟩ := te_63 (N := N) (what := what) (rc := F_X12_tests_b56 N fu) (B := B1) hN hF0 hF G XX a1 a2 A X M HD Hm a3 (F + 1) 0 N k1 (by omega) (by omega) (fun i hi => by omega) (SMB_w a4 (by omega)) a5
    refine ⟨h', ?_, w2, w3⟩
    have e : F_X12_tests_b56 N (fu + 1) what (nI k) k1 = F_X12_tests_b63 N (F_X12_tests_b56 N fu) N what (nI k) (bu 0) k1 := by
      rw [F_X12_tests_b56, if_neg (fun z => by have := (l_le_n 4 (by omega) (by omega)).mp z; omega)]
      rfl
    rw [e]
    rcases w1 with ⟨v1, v2⟩ | ⟨i, v1, v2, v3, v4⟩
    · exact Or.inl ⟨v1, v2⟩
    · refine Or.inr ⟨i, v1, v2, v3, ?_⟩
      rw [v4]
      unfold F_X12_tests_b83
      rw [Int32.add_comm 1 (bu i), bu_1]
      split <;> rfl
  -- what the class found is the first
  have fst : ∀ {k i : Nat}, 1 ≤ k → k ≤ 3 → i ≤ F → tTel F T (qAll F T) k (inD D) i → (∀ k' j', 1 ≤ k' → j' ≤ F → k' < k ∨ (k' = k ∧ j' < i) → ¬ tTel F T (qAll F T) k' (inD D) j') → x = nI k ∧ y = nI i := fun {k i} a1 a2 a3 a4 a5 => by
    rcases PR with ⟨z, -⟩ | ⟨-, k', j', b1, b2, b3, b4, b5, b6, b7⟩ | ⟨-, z, -⟩
    · exact absurd z no
    · have e1 : ¬ (k' < k ∨ (k' = k ∧ j' < i)) := fun c => a5 k' j' b1 b3 c b4
      have e2 : ¬ (k < k' ∨ (k = k' ∧ i < j')) := fun c => b5 k i a1 a3 c a4
      have e3 : k = k' := by omega
      have e4 : i = j' := by omega
      rw [e3, e4]
      exact ⟨b6, b7⟩
    · exact absurd a4 (z k i a1 a2 a3)
  have e0 : F_X12_tests_b56 N N what 1 h = F_X12_tests_b56 N (N' + 3 + 1) what (nI 1) h := by rw [← hN']; rfl
  obtain ⟨k1, x1, x2, x3⟩ := st 1 (N' + 3) h B (by omega) (by omega) (by omega) SB TmF_0
  rcases x1 with ⟨w1, w2⟩ | ⟨i, w1, w2, w3, w4⟩
  · obtain ⟨k2, y1, y2, y3⟩ := st 2 (N' + 2) k1 _ (by omega) (by omega) (by omega) x2 x3
    rcases y1 with ⟨v1, v2⟩ | ⟨i, v1, v2, v3, v4⟩
    · obtain ⟨k3, z1, z2, z3⟩ := st 3 (N' + 1) k2 _ (by omega) (by omega) (by omega) y2 y3
      rcases z1 with ⟨u1, u2⟩ | ⟨i, u1, u2, u3, u4⟩
      · have n3 : ∀ k j, 1 ≤ k → k ≤ 3 → j ≤ F → ¬ tTel F T (qAll F T) k (inD D) j := fun k j b1 b2 b3 => by
          have : k = 1 ∨ k = 2 ∨ k = 3 := by omega
          rcases this with rfl | rfl | rfl
          · exact w1 j b3
          · exact v1 j b3
          · exact u1 j b3
        have xy : x = -1 ∧ y = -1 := by
          rcases PR with ⟨z, -⟩ | ⟨-, k', j', b1, b2, b3, b4, -⟩ | ⟨-, -, z1, z2⟩
          · exact absurd z no
          · exact absurd b4 (n3 k' j' b1 b2 b3)
          · exact ⟨z1, z2⟩
        refine ⟨k3, ?_, SMB_w z2 (by omega), z3⟩
        rw [e0, w2, v2, u2, F_X12_tests_b56, if_pos (by decide), xy.1, xy.2]
        split <;> rfl
      · have f := fst (by omega) (by omega) u1 u2 (fun k' j' b1 b2 b3 => by
          have : k' = 1 ∨ k' = 2 ∨ (k' = 3 ∧ j' < i) := by omega
          rcases this with rfl | rfl | ⟨rfl, b4⟩
          · exact w1 j' b2
          · exact v1 j' b2
          · exact u3 j' b4)
        refine ⟨k3, ?_, SMB_w z2 (by omega), z3⟩
        rw [e0, w2, v2, u4, f.1, f.2]
    · have f := fst (by omega) (by omega) v1 v2 (fun k' j' b1 b2 b3 => by
        have : k' = 1 ∨ (k' = 2 ∧ j' < i) := by omega
        rcases this with rfl | ⟨rfl, b4⟩
        · exact w1 j' b2
        · exact v3 j' b4)
      refine ⟨k2, ?_, SMB_w y2 (by omega), y3⟩
      rw [e0, w2, v4, f.1, f.2]
  · have f := fst (by omega) (by omega) w1 w2 (fun k' j' b1 b2 b3 => by
      have : k' = 1 ∧ j' < i := by omega
      rw [this.1]
      exact w3 j' this.2)
    refine ⟨k1, ?_, SMB_w x2 (by omega), x3⟩
    rw [e0, w4, f.1, f.2]
/-- all stamps -/
def StN (B : Nat) (h : PH) : Prop := StB B h ∧ StL B h
def TeF (h h' : PH) : Prop := ∀ x y, ¬ (x = 40 ∨ x = 41 ∨ x = 43 ∨ x = 44 ∨ x = 46 ∨ x = 47 ∨ x = 49 ∨ x = 50 ∨ (x = 39 ∧ (y = 2 ∨ y = 3 ∨ y = 12 ∨ y = 13)) ∨ (x = 131 ∧ 3072 ≤ y) ∨ (x = 132 ∧ 1 ≤ y) ∨ x = 133 ∨ (x = 103 ∧ (y = 0 ∨ y = 50)) ∨ x = 134 ∨ x = 135) → h'.1 x y = h.1 x y
theorem c103 {k : PH} {a b : Nat} (z : ¬ (a = 103 ∧ b = 0)) : (hs k 103 0 0).1 a b = k.1 a b := by
  rw [hs_1]
  by_cases y : a = 103
  · rw [if_pos y, if_neg (by omega)]
  · rw [if_neg y]
theorem StN_w {B B' : Nat} (s : StN B h) (e : B ≤ B') : StN B' h := by
  obtain ⟨⟨K, K', a, b, c, d⟩, l⟩ := s
  refine ⟨⟨K, K', by omega, by omega, c, d⟩, fun lv hl => ?_⟩
  obtain ⟨K, a, b⟩ := l lv hl
  exact ⟨K, by omega, b⟩
theorem StN_q {B : Nat} (s : StN B h) (e : ∀ a b, (a = 39 ∧ b = 13) ∨ a = 43 ∨ a = 40 ∨ (a = 103 ∧ b = 50) ∨ a = 133 ∨ a = 134 ∨ a = 135 → h'.1 a b = h.1 a b) : StN B h' := by
  obtain ⟨⟨K, K', a, b, c, d⟩, l⟩ := s
  exact ⟨⟨K, K', a, b, StC_q c (fun a b z => e a b (by omega)), StM_q d (fun a b z => e a b (by omega))⟩, StL_q l (fun a b z => e a b (by omega))⟩
theorem P_tests {B : Nat} (hN : 5000 ≤ N) (hF0 : 0 < F) (hF : F ≤ 6) (hB : B + 3000000 < 4294967296) (C : HC F h) (M : HM F h) (S : GsI F T h) (SB : StN B h) (a : Int32) : ∃ r h1 h2, F_X11_tests N a h = some (r, h1) ∧ F_X12_tests N a h1 = some (r, h2) ∧ GsI F T h2 ∧ StN (B + 3000000) h2 ∧ TeF h h2 := by
  have G := qAll_G (T := T) hF0
  have XX := qAll_X (T := T) hF0 hF
  have ql := QD_le G.1 hF
  have two : (F_X11_tests N a h = some (-1, h) ∧ F_X12_tests N a h = some (-1, hs h 103 0 0)) → ∃ r h1 h2, F_X11_tests N a h = some (r, h1) ∧ F_X12_tests N a h1 = some (r, h2) ∧ GsI F T h2 ∧ StN (B + 3000000) h2 ∧ TeF h h2 := fun ⟨y1, y2⟩ => ⟨-1, h, _, y1, y2, Gs_0 hF0 hF S, StN_w (StN_q SB (fun a b z => c103 (by omega))) (by omega), fun x y z => c103 (by omega)⟩
  rcases id S with ⟨s1, s2⟩ | ⟨D, s1, s2, Ka, U, HD, Hc, Hm, Hp⟩
  · apply two
    constructor
    · unfold F_X11_tests; rw [if_pos s1]
    · unfold F_X12_tests; rw [hb_e, c103 (by omega), if_pos s2]
  · have dl := HdD_le HD
    have n1 : ¬ h.1 39 0 = 0 := by rw [s1]; decide
    have n2 : ¬ h.1 103 46 = 0 := by rw [s2]; decide
    have z0 : (0 : Int32).toNatClampNeg = 0 := by decide
    by_cases g0 : D.length = 0
    · apply two
      constructor
      · unfold F_X11_tests; rw [if_neg n1, if_pos (by rw [Hc.1, g0]; rfl)]
      · unfold F_X12_tests; rw [hb_e, c103 (by omega), if_neg n2, if_pos (by decide), z0, c103 (by omega), if_pos (by rw [Hm.1, g0]; rfl)]
    · have d1 : ¬ nI D.length = 0 := fun z => g0 ((n_eq_l 0 (by omega) (by omega)).mp z)
      by_cases g1 : wth a 0 1 = true
      · obtain ⟨⟨K, K', k1, k2, k3, k4⟩, sl⟩ := SB
        obtain ⟨h1, Kc, e1, e2, e3, e4, e5, e6⟩ := planC_x hN hF0 hF C Ka HD Hc Hp k3 (by omega)
        -- the reference from there
        have M1 : HM F (hs h1 103 0 0) := by unfold HM; rw [c103 (by omega), e6 103 1 (by omega)]; exact M
        have cm' : ∀ x y, 103 ≤ x → ¬ (x = 103 ∧ y = 0) → (hs h1 103 0 0).1 x y = h.1 x y := fun x y z w => by rw [c103 w, e6 x y (by omega)]
        have A1 : AM F T (qAll F T) (hs h1 103 0 0) := AM_q U.2.1 (fun a b z => cm' a b (by omega) (by omega))
        have X1 : XM F T (qAll F T).length 0 (qAll F T) (hs h1 103 0 0) := fun a b y z w => by rw [cm' 129 _ (by omega) (by omega)]; exact U.2.2 a b y z w
        have Hm1 : HdM (qAll F T) 0 0 D (hs h1 103 0 0) := ⟨by rw [cm' 132 0 (by omega) (by omega)]; exact Hm.1, fun t ht => by rw [cm' 131 _ (by omega) (by omega)]; exact Hm.2 t ht⟩
        have S1 : SMB B (hs h1 103 0 0) := ⟨⟨K', k2, StM_q k4 (fun a b z => cm' a b (by omega) (by omega))⟩, StL_q sl (fun a b z => cm' a b (by omega) (by omega))⟩
        have go : F_X12_goesThrough N (hs h1 103 0 0) = some (hs h1 103 0 0) := by
          unfold F_X12_goesThrough
          rw [cm' 103 37 (by omega) (by omega), U.1, if_neg one10]
        have ref : ∃ h2, F_X12_tests N a h1 = some (if a = 0 then h1.1 39 2 else h1.1 39 3, h2) ∧ SMB (B + 3000000) h2 ∧ TmF 0 (hs h1 103 0 0) h2 := by
          obtain ⟨r, o1, o2⟩ := isOneM_x (N := N) (lv := 0) hN hF G (by omega) HD Hm1
          have eq : F_X12_tests N a h1 = if r = 0 then F_X12_tests_b56 N N a 1 (hs h1 103 0 0) else if a = 0 then some (0, hs h1 103 0 0) else some (-1, hs h1 103 0 0) := by
            unfold F_X12_tests
            rw [hb_e, cm' 103 46 (by omega) (by omega), if_neg n2, if_pos (by decide), z0, cm' 132 0 (by omega) (by omega), Hm.1, if_neg d1, within_x, bI_s, if_pos g1, if_neg one10, go, bV_s, show F_X12_isOne N 0 (hs h1 103 0 0) = some (r, hs h1 103 0 0) from o1, bI_s]
          rw [eq]
          rcases o2 with ⟨rfl, o2⟩ | ⟨rfl, o2⟩
          · rw [if_neg one10]
            have xy : h1.1 39 2 = 0 ∧ h1.1 39 3 = -1 := by
              rcases e3 with ⟨-, z1, z2⟩ | ⟨z, -⟩ | ⟨z, -⟩
              · exact ⟨z1, z2⟩
              · exact absurd o2 z
              · exact absurd o2 z
            refine ⟨hs h1 103 0 0, ?_, SMB_w S1 (by omega), TmF_0⟩
            rw [xy.1, xy.2]
            split <;> rfl
          · rw [if_pos rfl]
            exact testsM_x hN hF0 hF A1 X1 M1 HD Hm1 S1 hB e3 o2
        obtain ⟨h2, r1, ⟨⟨Km, r2, r3⟩, r4⟩, r5⟩ := ref
        have lo2 : ∀ x y, x < 103 → h2.1 x y = h1.1 x y := fun x y z => by rw [r5 x y (by omega), c103 (by omega)]
        have hi2 : ∀ x y, 103 ≤ x → ¬ ((x = 131 ∧ 3072 ≤ y) ∨ (x = 132 ∧ 1 ≤ y) ∨ x = 133 ∨ (x = 103 ∧ (y = 0 ∨ y = 50)) ∨ x = 134 ∨ x = 135) → h2.1 x y = h.1 x y := fun x y z w => by rw [r5 x y (by omega), cm' x y z (by omega)]
        refine ⟨if a = 0 then h1.1 39 2 else h1.1 39 3, h1, h2, ?_, r1, Or.inr ⟨D, ?_⟩, ⟨⟨Kc, Km, by omega, r2, StC_q e5 (fun a b z => lo2 a b (by omega)), r3⟩, r4⟩, fun x y z => ?_⟩
        · obtain ⟨k, hk, rfl⟩ := wth_0n (k := 1) (by omega) g1
          unfold F_X11_tests
          rw [if_neg n1, Hc.1, if_neg d1, if_neg (nlt0 (by omega)), if_pos ((n_le_l 1 (by omega) (by omega)).mpr hk), e1, bV_s]
          split <;> rfl
        · have old := fun x y (z : GsP x y) (w : ¬ (x = 39 ∧ (y = 2 ∨ y = 3 ∨ y = 12))) => (show h2.1 x y = h.1 x y by
            unfold GsP at z
            by_cases c : x < 103
            · rw [lo2 x y c, e6 x y (by omega)]
            · exact hi2 x y (by omega) (by omega))
          have base : GsB F T D h := ⟨s1, s2, Ka, U, HD, Hc, Hm, Hp⟩
          -- through the heap where only the plan is laid back
          refine ⟨by rw [lo2 39 0 (by omega), e6 39 0 (by omega)]; exact s1, by rw [hi2 103 46 (by omega) (by omega)]; exact s2, AtK_q Ka hF (fun a b z => old a b (by unfold GsP; omega) (by omega)), AuK_q U (fun a b z => old a b (by unfold GsP; omega) (by omega)), HD, ⟨by rw [lo2 39 1 (by omega), e6 39 1 (by omega)]; exact Hc.1, fun t ht => by rw [lo2 42 t (by omega), e6 42 t (by omega)]; exact Hc.2 t ht⟩, ⟨by rw [hi2 132 0 (by omega) (by omega)]; exact Hm.1, fun t ht => by rw [hi2 131 _ (by omega) (by omega)]; exact Hm.2 t ht⟩, Or.inr ⟨by rw [lo2 39 12 (by omega)]; exact e2, by rw [lo2 39 2 (by omega), lo2 39 3 (by omega)]; exact e3⟩⟩
        · by_cases c : x < 103
          · rw [lo2 x y c, e6 x y (by omega)]
          · exact hi2 x y (by omega) (by omega)
      · apply two
        constructor
        · unfold F_X11_tests
          rw [if_neg n1, Hc.1, if_neg d1]
          by_cases y1 : a < 0
          · rw [if_pos y1]
          · rw [if_neg y1]
            by_cases y2 : a ≤ 1
            · exact absurd (decide_eq_true ⟨Int32.not_lt.mp y1, y2⟩) g1
            · rw [if_neg y2]
        · unfold F_X12_tests
          rw [hb_e, c103 (by omega), if_neg n2, if_pos (by decide), z0, c103 (by omega), Hm.1, if_neg d1, within_x, bI_s, if_neg g1, if_pos rfl]
end
