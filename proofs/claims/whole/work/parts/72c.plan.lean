/-! tests(): what the class finds -/
def cS : Nat → Nat
  | 0 => 0
  | 1 => 0
  | k + 2 => 7 * (1 + cS (k + 1))
def TsF (k : Nat) (h h' : PH) : Prop := ∀ x y, ¬ (x = 40 ∨ x = 41 ∨ x = 43 ∨ x = 44 ∨ (46 ≤ x ∧ x < 46 + (k - 1)) ∨ (49 ≤ x ∧ x < 49 + (k - 1)) ∨ (x = 39 ∧ y = 13)) → h'.1 x y = h.1 x y
def TelOK (F : Nat) (T : Nat → Int32 → Bool) (q : List ((Nat × Nat × Nat) × Nat × Nat × Nat)) (N k D : Nat) : Prop := ∀ row a n d j K h, (row = 42 ∨ (46 + (k - 1) ≤ row ∧ row ≤ 47)) → j ≤ F → K + 1 + cS k * n < 4294967296 → AC F T q h → XC F T q.length 0 q h → HC F h → Sg row a n d h → (∀ t, t < n → d t < q.length) → a + n ≤ 3072 → StC K h → ∃ r h' K', (TC N D).1 row (nI a) (nI (a + n)) (nI k) (nI j) h = some (r, h') ∧ ((r = 1 ∧ tTel F T q k (sD n d) j) ∨ (r = 0 ∧ ¬ tTel F T q k (sD n d) j)) ∧ K' ≤ K + 1 + cS k * n ∧ StC K' h' ∧ TsF k h h'
def CanOK (F : Nat) (T : Nat → Int32 → Bool) (q : List ((Nat × Nat × Nat) × Nat × Nat × Nat)) (N k D : Nat) : Prop := ∀ row a n d K h, (row = 42 ∨ (46 + (k - 1) ≤ row ∧ row ≤ 47)) → K + 7 * (1 + cS k * n) < 4294967296 → AC F T q h → XC F T q.length 0 q h → HC F h → Sg row a n d h → (∀ t, t < n → d t < q.length) → a + n ≤ 3072 → StC K h → ∃ r h' K', (TC N D).2 row (nI a) (nI (a + n)) (nI k) h = some (r, h') ∧ ((r = 1 ∧ tCan F T q k (sD n d)) ∨ (r = 0 ∧ ¬ tCan F T q k (sD n d))) ∧ K' ≤ K + 7 * (1 + cS k * n) ∧ StC K' h' ∧ TsF k h h'
section
variable {F N nv : Nat} {T : Nat → Int32 → Bool} {q : List ((Nat × Nat × Nat) × Nat × Nat × Nat)} {h h' h2 : PH}
theorem TsF_0 {k : Nat} : TsF k h h := fun _ _ _ => rfl
theorem TsF_t {k : Nat} (a : TsF k h h') (b : TsF k h' h2) : TsF k h h2 := fun x y z => (b x y z).trans (a x y z)
theorem choices_x (hF : F ≤ 6) (C : HC F h) : F_X0_choices h = some (nI (F + 1), h) := by
  unfold F_X0_choices
  rw [show h.1 14 1 = nI F from C, show (1 : Int32) = nI 1 from rfl, nI_add, Nat.add_comm]
theorem tCan_e {p : Nat → Prop} (e : ∀ y, ¬ p y) : ∀ k, tCan F T q k p := by
  intro k
  have o : tOne q p := fun x y hx _ => absurd hx (e x)
  cases k with
  | zero => exact o
  | succ k => exact Or.inl o
theorem can_of {k D : Nat} (hk : 1 ≤ k) (hN : 5000 ≤ N) (hF : F ≤ 6) (G : QG F q) (H : TelOK F T q N k D) : CanOK F T q N k (D + 1) := by
  intro row a n d K h hr hK A X C S hd ha SC
  show ∃ r h' K', F_X3_canTell N (TC N D).1 (TC N D).2 row (nI a) (nI (a + n)) (nI k) h = some (r, h') ∧ _
  unfold F_X3_canTell
  obtain ⟨r, e1, e2⟩ := one_x hN hF G A S hd ha
  rw [e1, bI_s]
  obtain ⟨k', rfl⟩ : ∃ k', k = k' + 1 := ⟨k - 1, by omega⟩
  rcases e2 with ⟨rfl, e2⟩ | ⟨rfl, e2⟩
  · rw [if_neg one10]
    exact ⟨1, h, K, rfl, Or.inl ⟨rfl, Or.inl e2⟩, by omega, SC, TsF_0⟩
  · rw [if_pos rfl]
    have loop : ∀ m j fuel h1 K1, j + m = F + 1 → m < fuel → (∀ i, i < j → ¬ tTel F T q (k' + 1) (sD n d) i) → K1 ≤ K + j * (1 + cS (k' + 1) * n) → StC K1 h1 → TsF (k' + 1) h h1 → ∃ r h' K', F_X3_canTell_b15 N (TC N D).1 (TC N D).2 row fuel (nI a) (nI (a + n)) (nI (k' + 1)) (nI j) h1 = some (r, h') ∧ ((r = 1 ∧ tCan F T q (k' + 1) (sD n d)) ∨ (r = 0 ∧ ¬ tCan F T q (k' + 1) (sD n d))) ∧ K' ≤ K + 7 * (1 + cS (k' + 1) * n) ∧ StC K' h' ∧ TsF (k' + 1) h h' := by
      intro m
      induction m with
      | zero =>
        intro j fuel h1 K1 p1 p2 p3 p4 p5 p6
        obtain ⟨fu, rfl⟩ : ∃ g, fuel = g + 1 := ⟨fuel - 1, by omega⟩
        have C1 : HC F h1 := by unfold HC; rw [p6 14 1 (by omega)]; exact C
        rw [F_X3_canTell_b15, choices_x hF C1, bI_s, if_pos (nI_le (by omega) (by omega))]
        refine ⟨0, h1, K1, rfl, Or.inr ⟨rfl, fun z => ?_⟩, ?_, p5, p6⟩
        · rcases z with z | ⟨i, i1, i2⟩
          · exact e2 z
          · exact p3 i (by omega) i2
        · have : j * (1 + cS (k' + 1) * n) ≤ 7 * (1 + cS (k' + 1) * n) := Nat.mul_le_mul_right _ (by omega)
          omega
      | succ m ih =>
        intro j fuel h1 K1 p1 p2 p3 p4 p5 p6
        obtain ⟨fu, rfl⟩ : ∃ g, fuel = g + 1 := ⟨fuel - 1, by omega⟩
        have C1 : HC F h1 := by unfold HC; rw [p6 14 1 (by omega)]; exact C
        have jb : (j + 1) * (1 + cS (k' + 1) * n) ≤ 7 * (1 + cS (k' + 1) * n) := Nat.mul_le_mul_right _ (by omega)
        rw [Nat.succ_mul] at jb
        obtain ⟨r, h2, K2, x1, x2, x3, x4, x5⟩ := H row a n d j K1 h1 hr (by omega) (by omega) (AC_q A (fun a b z => p6 a b (by omega))) (fun a b y z w => by rw [p6 36 _ (by omega)]; exact X a b y z w) C1 (fun t ht => by rw [p6 row _ (by omega)]; exact S t ht) hd ha p5
        rw [F_X3_canTell_b15, choices_x hF C1, bI_s, if_neg (nI_ge (by omega) (by omega)), x1, bI_s, ib_e, nI_1]
        rcases x2 with ⟨rfl, x2⟩ | ⟨rfl, x2⟩
        · rw [if_neg one10]
          exact ⟨1, h2, K2, rfl, Or.inl ⟨rfl, Or.inr ⟨j, by omega, x2⟩⟩, by omega, x4, TsF_t p6 x5⟩
        · rw [if_pos rfl]
          exact ih (j + 1) fu h2 K2 (by omega) (by omega) (fun i hi => by
            by_cases z : i = j
            · rw [z]; exact x2
            · exact p3 i (by omega)) (by rw [Nat.succ_mul]; omega) x4 (TsF_t p6 x5)
    exact loop (F + 1) 0 N h K (by omega) (by omega) (fun i hi => by omega) (by omega) SC TsF_0
theorem tel_1 {D : Nat} (hN : 5000 ≤ N) (hF : F ≤ 6) (G : QG F q) (XX : XF F T q.length 0 q) : TelOK F T q N 1 (D + 1) := by
  intro row a n d j K h hr hj hK A X C S hd ha SC
  show ∃ r h' K', F_X3_tells N (TC N D).1 (TC N D).2 row (nI a) (nI (a + n)) (nI 1) (nI j) h = some (r, h') ∧ _
  unfold F_X3_tells
  rw [if_neg (by decide)]
  have c0 : cS 1 = 0 := rfl
  obtain ⟨r, h', e1, e2, e3, e4⟩ := ta_x hN hF G XX hj (by omega) (by omega) A X S hd ha SC
  rw [e1, bI_s]
  refine ⟨r, h', K + 1, ?_, ?_, by omega, e3, fun x y z => e4 x y (by omega) (by omega) (by omega)⟩
  · rcases e2 with ⟨rfl, -⟩ | ⟨rfl, -⟩
    · rw [if_pos (by decide)]
    · rw [if_pos (by decide)]
  · exact e2
theorem tel_s {k D : Nat} (hk : 1 ≤ k) (hk2 : k ≤ 2) (hN : 5000 ≤ N) (hF : F ≤ 6) (G : QG F q) (XX : XF F T q.length 0 q) (H : CanOK F T q N k D) : TelOK F T q N (k + 1) (D + 1) := by
  intro row a n d j K h hr hj hK A X C S hd ha SC
  obtain ⟨k', rfl⟩ : ∃ k', k = k' + 1 := ⟨k - 1, by omega⟩
  have cs : cS (k' + 1 + 1) = 7 * (1 + cS (k' + 1)) := rfl
  rw [cs, Nat.mul_assoc] at hK ⊢
  show ∃ r h' K', F_X3_tells N (TC N D).1 (TC N D).2 row (nI a) (nI (a + n)) (nI (k' + 1 + 1)) (nI j) h = some (r, h') ∧ _
  unfold F_X3_tells
  rw [if_pos ((l_lt_n 1 (by omega) (by omega)).mpr (by omega)), nI_m2 (by omega), ib_e, if_pos ((n_lt_l 2 (by omega) (by omega)).mpr (by omega)), show k' + 1 + 1 - 2 = k' by omega]
  obtain ⟨g, sz, el, Lg, h1, e1, e2, e3, e4, e5, e6, e7⟩ := split_x (v := k') hN (by omega) hF G XX hj (by omega) (by omega) A X S hd ha SC
  rw [e1, bI_s]
  have loop : ∀ m b fuel h2 K2, b + m = g → m < fuel → (∀ i, i < b → tCan F T q (k' + 1) (sD (sz i) (el i))) → K2 ≤ K + 1 + 7 * ((1 + cS (k' + 1)) * fb_sm sz b) → StC K2 h2 → TsF (k' + 1) h1 h2 → ∃ r h' K', F_X3_tells_b53 N (TC N D).1 (TC N D).2 row fuel (nI (k' + 1 + 1)) (nI k') (nI g) (nI (fb_sm sz b)) (nI b) h2 = some (r, h') ∧ ((r = 1 ∧ ∀ i, i < g → tCan F T q (k' + 1) (sD (sz i) (el i))) ∨ (r = 0 ∧ ∃ i, i < g ∧ ¬ tCan F T q (k' + 1) (sD (sz i) (el i)))) ∧ K' ≤ K + 1 + 7 * ((1 + cS (k' + 1)) * fb_sm sz g) ∧ StC K' h' ∧ TsF (k' + 1) h1 h' := by
    intro m
    induction m with
    | zero =>
      intro b fuel h2 K2 p1 p2 p3 p4 p5 p6
      obtain ⟨fu, rfl⟩ : ∃ g, fuel = g + 1 := ⟨fuel - 1, by omega⟩
      rw [F_X3_tells_b53, if_pos (nI_le (by omega) (by omega))]
      rw [show b = g by omega] at p3 p4
      exact ⟨1, h2, K2, rfl, Or.inl ⟨rfl, p3⟩, p4, p5, p6⟩
    | succ m ih =>
      intro b fuel h2 K2 p1 p2 p3 p4 p5 p6
      obtain ⟨fu, rfl⟩ : ∃ g, fuel = g + 1 := ⟨fuel - 1, by omega⟩
      obtain ⟨z1, z2, z3, z4, z5⟩ := e4 b (by omega)
      have part := fb_sm_part sz (show b < g by omega)
      have fs := fb_sm_succ sz b
      have m1 : (1 + cS (k' + 1)) * (fb_sm sz b + sz b) = (1 + cS (k' + 1)) * fb_sm sz b + (1 + cS (k' + 1)) * sz b := Nat.mul_add _ _ _
      have m2 : (1 + cS (k' + 1)) * sz b = sz b + cS (k' + 1) * sz b := by rw [Nat.add_mul, Nat.one_mul]
      have m3 : (1 + cS (k' + 1)) * (fb_sm sz b + sz b) ≤ (1 + cS (k' + 1)) * fb_sm sz g := Nat.mul_le_mul_left _ part
      have m4 : (1 + cS (k' + 1)) * fb_sm sz g ≤ (1 + cS (k' + 1)) * n := Nat.mul_le_mul_left _ e3
      have C2 : HC F h2 := by unfold HC; rw [p6 14 1 (by omega), e7 14 1 (by omega)]; exact C
      obtain ⟨r, h3, K3, x1, x2, x3, x4, x5⟩ := H (46 + k') (fb_sm sz b) (sz b) (el b) K2 h2 (by omega) (by omega) (AC_q A (fun a b z => by rw [p6 a b (by omega), e7 a b (by omega)])) (fun a b y z w => by rw [p6 36 _ (by omega), e7 36 _ (by omega)]; exact X a b y z w) C2 (fun t ht => by rw [p6 (46 + k') _ (by omega)]; exact z3 t ht) z4 (by omega) p5
      rw [F_X3_tells_b53, if_neg (nI_ge (by omega) (by omega)), if_pos (nI_in0 (by omega : k' < 2) (by omega)), if_pos (nI_in0 (by omega : b < 256) (by omega)), nI_clamp (by omega), nI_clamp (by omega), p6 (49 + k') b (by omega), z2, ib_e, nI_m1 (by omega), show k' + 1 + 1 - 1 = k' + 1 by omega, fs, x1, bI_s, ib_e, nI_1]
      rcases x2 with ⟨rfl, x2⟩ | ⟨rfl, x2⟩
      · rw [if_neg one10, ← fs]
        exact ih (b + 1) fu h3 K3 (by omega) (by omega) (fun i hi => by
          by_cases z : i = b
          · rw [z]; exact x2
          · exact p3 i (by omega)) (by rw [fs]; omega) x4 (TsF_t p6 x5)
      · rw [if_pos rfl]
        exact ⟨0, h3, K3, rfl, Or.inr ⟨rfl, b, by omega, x2⟩, by omega, x4, TsF_t p6 x5⟩
  obtain ⟨r, h', K', x1, x2, x3, x4, x5⟩ := loop g 0 N h1 (K + 1) (by omega) (by omega) (fun i hi => by omega) (by omega) e6 TsF_0
  have m4 : (1 + cS (k' + 1)) * fb_sm sz g ≤ (1 + cS (k' + 1)) * n := Nat.mul_le_mul_left _ e3
  refine ⟨r, h', K', x1, ?_, by omega, x4, fun x y z => by rw [x5 x y (by omega), e7 x y (by omega)]⟩
  rcases x2 with ⟨rfl, x2⟩ | ⟨rfl, i, i1, x2⟩
  · refine Or.inl ⟨rfl, fun l => ?_⟩
    show tCan F T q (k' + 1) (tImg F T q (sD n d) j l)
    by_cases z : ∃ y, tImg F T q (sD n d) j l y
    · obtain ⟨y, hy⟩ := z
      obtain ⟨b, b1, b2⟩ := e5 l y hy
      have := x2 b b1
      rw [(e4 b b1).2.2.2.2, b2] at this
      exact this
    · exact tCan_e (fun y hy => z ⟨y, hy⟩) _
  · refine Or.inr ⟨rfl, fun z => x2 ?_⟩
    rw [(e4 i i1).2.2.2.2]
    exact z (Lg i)
theorem tel_ok (hN : 5000 ≤ N) (hF : F ≤ 6) (G : QG F q) (XX : XF F T q.length 0 q) : ∀ k, 1 ≤ k → k ≤ 3 → TelOK F T q N k 8 := by
  intro k h1 h3
  have : k = 1 ∨ k = 2 ∨ k = 3 := by omega
  rcases this with rfl | rfl | rfl
  · exact tel_1 (D := 7) hN hF G XX
  · exact tel_s (D := 7) (by omega) (by omega) hN hF G XX (can_of (D := 6) (by omega) hN hF G (tel_1 (D := 5) hN hF G XX))
  · exact tel_s (D := 7) (by omega) (by omega) hN hF G XX (can_of (D := 6) (by omega) hN hF G (tel_s (D := 5) (by omega) (by omega) hN hF G XX (can_of (D := 4) (by omega) hN hF G (tel_1 (D := 3) hN hF G XX))))
/-- the class's plan -/
def PnF (h h' : PH) : Prop := ∀ x y, ¬ (x = 40 ∨ x = 41 ∨ x = 43 ∨ x = 44 ∨ x = 46 ∨ x = 47 ∨ x = 49 ∨ x = 50 ∨ (x = 39 ∧ (y = 2 ∨ y = 3 ∨ y = 12 ∨ y = 13))) → h'.1 x y = h.1 x y
theorem pl_60 {n k : Nat} {d : Nat → Nat} {rc : Int32 → PH → Option PH} (hN : 5000 ≤ N) (hF : F ≤ 6) (G : QG F q) (XX : XF F T q.length 0 q) (hk : 1 ≤ k) (hk3 : k ≤ 3) {K : Nat} {h0 : PH} (A : AC F T q h0) (X : XC F T q.length 0 q h0) (C : HC F h0) (S : Sg 42 0 n d h0) (h1' : h0.1 39 1 = nI n) (hd : ∀ t, t < n → d t < q.length) (hn : n ≤ 3072) (hK : K + 7 * (1 + cS k * n) < 4294967296) : ∀ m j fuel h K1, j + m = F + 1 → m < fuel → (∀ i, i < j → ¬ tTel F T q k (sD n d) i) → K1 ≤ K + j * (1 + cS k * n) → StC K1 h → PnF h0 h → h.1 39 2 = -1 → ∃ h' K', F_X3_plan_b60 N rc fuel (nI k) (nI j) h = rc (nI (k + 1)) h' ∧ ((h'.1 39 2 = -1 ∧ h'.1 39 3 = h.1 39 3 ∧ ∀ i, i ≤ F → ¬ tTel F T q k (sD n d) i) ∨ ∃ i, i ≤ F ∧ tTel F T q k (sD n d) i ∧ (∀ i', i' < i → ¬ tTel F T q k (sD n d) i') ∧ h'.1 39 2 = nI k ∧ h'.1 39 3 = nI i) ∧ K' ≤ K + 7 * (1 + cS k * n) ∧ StC K' h' ∧ PnF h0 h' ∧ h'.1 39 12 = h.1 39 12 := by
  intro m
  induction m with
  | zero =>
    intro j fuel h K1 p1 p2 p3 p4 p5 p6 p7
    obtain ⟨fu, rfl⟩ : ∃ g, fuel = g + 1 := ⟨fuel - 1, by omega⟩
    have C1 : HC F h := by unfold HC; rw [p6 14 1 (by omega)]; exact C
    rw [F_X3_plan_b60, choices_x hF C1, bI_s, if_pos (nI_le (by omega) (by omega))]
    unfold F_X3_plan_b113
    rw [ib_e, nI_1]
    have : j * (1 + cS k * n) ≤ 7 * (1 + cS k * n) := Nat.mul_le_mul_right _ (by omega)
    exact ⟨h, K1, rfl, Or.inl ⟨p7, rfl, fun i hi => p3 i (by omega)⟩, by omega, p5, p6, rfl⟩
  | succ m ih =>
    intro j fuel h K1 p1 p2 p3 p4 p5 p6 p7
    obtain ⟨fu, rfl⟩ : ∃ g, fuel = g + 1 := ⟨fuel - 1, by omega⟩
    have C1 : HC F h := by unfold HC; rw [p6 14 1 (by omega)]; exact C
    have jb : (j + 1) * (1 + cS k * n) ≤ 7 * (1 + cS k * n) := Nat.mul_le_mul_right _ (by omega)
    rw [Nat.succ_mul] at jb
    obtain ⟨r, h2, K2, x1, x2, x3, x4, x5⟩ := tel_ok hN hF G XX k hk hk3 42 0 n d j K1 h (Or.inl rfl) (by omega) (by omega) (AC_q A (fun a b z => p6 a b (by omega))) (fun a b y z w => by rw [p6 36 _ (by omega)]; exact X a b y z w) C1 (fun t ht => by rw [p6 42 _ (by omega)]; exact S t ht) hd (by omega) p5
    rw [Nat.zero_add] at x1
    have f2 : PnF h h2 := fun x y z => x5 x y (by omega)
    rw [F_X3_plan_b60, choices_x hF C1, bI_s, if_neg (nI_ge (by omega) (by omega)), if_pos p7, p6 39 1 (by omega), h1']
    unfold G_X3_tells
    rw [show (0 : Int32) = nI 0 from rfl, x1, bI_s]
    unfold F_X3_plan_b107
    simp only [ib_e, hb_e, nI_1]
    rcases x2 with ⟨rfl, x2⟩ | ⟨rfl, x2⟩
    · rw [if_neg (by decide)]
      generalize hk3' : hs (hs h2 39 2 (nI k)) 39 3 (nI j) = h3
      have c3 : ∀ x y, ¬ (x = 39 ∧ (y = 2 ∨ y = 3)) → h3.1 x y = h2.1 x y := fun x y z => by
        rw [← hk3', hs_1]
        by_cases e : x = 39
        · rw [if_pos e, if_neg (by omega), hs_1, if_pos e, if_neg (by omega)]
        · rw [if_neg e, hs_o e]
      have c32 : h3.1 39 2 = nI k := by rw [← hk3']; simp [hs_1]
      have c33 : h3.1 39 3 = nI j := by rw [← hk3']; simp [hs_1]
      have C3 : HC F h3 := by unfold HC; rw [c3 14 1 (by omega), x5 14 1 (by omega)]; exact C1
      refine ⟨h3, K2, ?_, Or.inr ⟨j, by omega, x2, p3, c32, c33⟩, by omega, StC_q x4 (fun a b z => c3 a b (by omega)), fun x y z => by rw [c3 x y (by omega), x5 x y (by omega)]; exact p6 x y z, by rw [c3 39 12 (by omega), x5 39 12 (by omega)]⟩
      obtain ⟨fv, rfl⟩ : ∃ g, fu = g + 1 := ⟨fu - 1, by omega⟩
      rw [F_X3_plan_b60, choices_x hF C3, bI_s]
      unfold F_X3_plan_b113
      simp only [ib_e, nI_1]
      by_cases z : F + 1 ≤ j + 1
      · rw [if_pos (nI_le z (by omega))]
      · rw [if_neg (nI_ge (by omega) (by omega)), c32, if_neg (n_eq_m1 (by omega))]
    · rw [if_pos (by decide)]
      obtain ⟨h', K', y1, y2, y3⟩ := ih (j + 1) fu h2 K2 (by omega) (by omega) (fun i hi => by
        by_cases z : i = j
        · rw [z]; exact x2
        · exact p3 i (by omega)) (by rw [Nat.succ_mul]; omega) x4 (fun x y z => by rw [x5 x y (by omega)]; exact p6 x y z) (by rw [x5 39 2 (by omega)]; exact p7)
      refine ⟨h', K', y1, ?_, y3.1, y3.2.1, y3.2.2.1, by rw [y3.2.2.2, x5 39 12 (by omega)]⟩
      rcases y2 with ⟨w1, w2, w3⟩ | w
      · exact Or.inl ⟨w1, by rw [w2, x5 39 3 (by omega)], w3⟩
      · exact Or.inr w
theorem planC_x {D : List Nat} {K : Nat} (hN : 5000 ≤ N) (hF0 : 0 < F) (hF : F ≤ 6) (C : HC F h) (A : AtK F T h) (HD : HdD (qAll F T).length D) (Hc : HdC D h) (hp : h.1 39 12 = 0 ∨ (h.1 39 12 = 1 ∧ PlR F T (qAll F T) (inD D) (h.1 39 2) (h.1 39 3))) (SC : StC K h) (hK : K + 2000000 < 4294967296) : ∃ h' K', F_X3_plan N h = some h' ∧ h'.1 39 12 = 1 ∧ PlR F T (qAll F T) (inD D) (h'.1 39 2) (h'.1 39 3) ∧ K' ≤ K + 2000000 ∧ StC K' h' ∧ PnF h h' := by
  have G := qAll_G (T := T) hF0
  have XX := qAll_X (T := T) hF0 hF
  have dl := HdD_le HD
  have ql := QD_le G.1 hF
  unfold F_X3_plan
  rcases hp with hp | ⟨hp, hp2⟩
  · rw [if_pos hp, hb_e]
    have c0 : ∀ x y, ¬ (x = 39 ∧ y = 12) → (hs h 39 12 1).1 x y = h.1 x y := fun x y z => by
      rw [hs_1]
      by_cases e : x = 39
      · rw [if_pos e, if_neg (by omega)]
      · rw [if_neg e]
    have A0 : AC F T (qAll F T) (hs h 39 12 1) := AC_q A.2.1 (fun a b z => c0 a b (by omega))
    have S0 : Sg 42 0 D.length (fun t => D.getD t 0) (hs h 39 12 1) := fun t ht => by rw [c0 42 _ (by omega), Nat.zero_add]; exact Hc.2 t ht
    obtain ⟨r, e1, e2⟩ := one_x hN hF G A0 S0 HD.1 (by omega)
    rw [Nat.zero_add] at e1
    rw [c0 39 1 (by omega), Hc.1, show F_X3_oneFloor N 42 0 (nI D.length) (hs h 39 12 1) = some (r, hs h 39 12 1) from e1, bI_s]
    unfold F_X3_plan_b35
    rcases e2 with ⟨rfl, e2⟩ | ⟨rfl, e2⟩
    · rw [if_neg one10, hb_e, hb_e]
      obtain ⟨N', rfl⟩ : ∃ n, N = n + 1 := ⟨N - 1, by omega⟩
      rw [F_X3_plan_b45, if_neg (by decide), if_neg (by simp [hs_1])]
      refine ⟨_, K, rfl, by simp [hs_1], Or.inl ⟨e2, by simp [hs_1], by simp [hs_1]⟩, by omega, StC_q SC (fun a b z => ?_), fun x y z => ?_⟩
      · rw [hs_1, hs_1, hs_1]
        by_cases e : a = 39
        · rw [if_pos e, if_neg (by omega), if_pos e, if_neg (by omega), if_pos e, if_neg (by omega)]
        · rw [if_neg e, if_neg e, if_neg e]
      · rw [hs_1, hs_1, hs_1]
        by_cases e : x = 39
        · rw [if_pos e, if_neg (by omega), if_pos e, if_neg (by omega), if_pos e, if_neg (by omega)]
        · rw [if_neg e, if_neg e, if_neg e]
    · rw [if_pos rfl, hb_e, hb_e]
      generalize hk0 : hs (hs (hs h 39 12 1) 39 2 (-1)) 39 3 (-1) = k0
      have k02 : k0.1 39 2 = -1 := by rw [← hk0]; simp [hs_1]
      have k03 : k0.1 39 3 = -1 := by rw [← hk0]; simp [hs_1]
      have k012 : k0.1 39 12 = 1 := by rw [← hk0]; simp [hs_1]
      have ck : ∀ x y, ¬ (x = 39 ∧ (y = 2 ∨ y = 3 ∨ y = 12)) → k0.1 x y = h.1 x y := fun x y z => by
        rw [← hk0, hs_1, hs_1, hs_1]
        by_cases e : x = 39
        · rw [if_pos e, if_neg (by omega), if_pos e, if_neg (by omega), if_pos e, if_neg (by omega)]
        · rw [if_neg e, if_neg e, if_neg e]
      have Ak : AC F T (qAll F T) k0 := AC_q A.2.1 (fun a b z => ck a b (by omega))
      have Xk : XC F T (qAll F T).length 0 (qAll F T) k0 := fun a b y z w => by rw [ck 36 _ (by omega)]; exact A.2.2.1 a b y z w
      have Ck : HC F k0 := by unfold HC; rw [ck 14 1 (by omega)]; exact C
      have Sk : Sg 42 0 D.length (fun t => D.getD t 0) k0 := fun t ht => by rw [ck 42 _ (by omega), Nat.zero_add]; exact Hc.2 t ht
      have dk : k0.1 39 1 = nI D.length := by rw [ck 39 1 (by omega)]; exact Hc.1
      have stk0 : StC K k0 := StC_q SC (fun a b z => ck a b (by omega))
      have c1 : cS 1 * D.length = 0 := by rw [show cS 1 = 0 from rfl, Nat.zero_mul]
      have c2 : cS 2 * D.length = 7 * D.length := rfl
      have c3 : cS 3 * D.length = 56 * D.length := rfl
      have done : ∀ {x y : Int32} {k j : Nat}, 1 ≤ k → k ≤ 3 → j ≤ F → tTel F T (qAll F T) k (inD D) j → (∀ k' j', 1 ≤ k' → j' ≤ F → k' < k ∨ (k' = k ∧ j' < j) → ¬ tTel F T (qAll F T) k' (inD D) j') → x = nI k → y = nI j → PlR F T (qAll F T) (inD D) x y := fun a1 a2 a3 a4 a5 a6 a7 => Or.inr (Or.inl ⟨e2, _, _, a1, a2, a3, a4, a5, a6, a7⟩)
      have stop : ∀ fuel (k : PH) (x : Int32), ¬ k.1 39 2 = -1 → F_X3_plan_b45 N (fuel + 1) x k = some k := fun fuel k x z => by
        rw [F_X3_plan_b45, if_neg z]
        split <;> rfl
      obtain ⟨N', hN'⟩ : ∃ n, N = n + 4 := ⟨N - 4, by omega⟩
      have st : ∀ (k : Nat) (fu : Nat) (k1 : PH) (K1 : Nat), 1 ≤ k → k ≤ 3 → K1 + 7 * (1 + cS k * D.length) < 4294967296 → StC K1 k1 → PnF k0 k1 → k1.1 39 2 = -1 → ∃ h' K', F_X3_plan_b45 N (fu + 1) (nI k) k1 = F_X3_plan_b45 N fu (nI (k + 1)) h' ∧ ((h'.1 39 2 = -1 ∧ h'.1 39 3 = k1.1 39 3 ∧ ∀ i, i ≤ F → ¬ tTel F T (qAll F T) k (inD D) i) ∨ ∃ i, i ≤ F ∧ tTel F T (qAll F T) k (inD D) i ∧ (∀ i', i' < i → ¬ tTel F T (qAll F T) k (inD D) i') ∧ h'.1 39 2 = nI k ∧ h'.1 39 3 = nI i) ∧ K' ≤ K1 + 7 * (1 + cS k * D.length) ∧ StC K' h' ∧ PnF k0 h' ∧ h'.1 39 12 = k1.1 39 12 := fun k fu k1 K1 a1 a2 a3 a4 a5 a6 => by
        rw [F_X3_plan_b45, if_neg (fun z => by have := (l_lt_n 3 (by omega) (by omega)).mp z; omega), if_pos a6]
        exact pl_60 (K := K1) hN hF G XX a1 a2 Ak Xk Ck Sk dk HD.1 (by omega) a3 (F + 1) 0 N k1 K1 (by omega) (by omega) (fun i hi => by omega) (by omega) a4 a5 a6
      obtain ⟨k1, K1, x1, x2, x3, x4, x5, x6⟩ := st 1 (N' + 3) k0 K (by omega) (by omega) (by omega) stk0 (fun _ _ _ => rfl) k02
      have x1' : F_X3_plan_b45 N N 1 k0 = F_X3_plan_b45 N (N' + 3) (nI 2) k1 := by
        have : F_X3_plan_b45 N N 1 k0 = F_X3_plan_b45 N (N' + 3 + 1) (nI 1) k0 := by rw [← hN']; rfl
        rw [this]; exact x1
      have bk : ∀ {k' : PH}, PnF k0 k' → PnF h k' := fun {k'} z x y w => by rw [z x y w, ck x y (by omega)]
      rw [x1']
      rcases x2 with ⟨w1, w2, w3⟩ | ⟨i, w1, w2, w3, w4, w5⟩
      · obtain ⟨k2, K2, y1, y2, y3, y4, y5, y6⟩ := st 2 (N' + 2) k1 K1 (by omega) (by omega) (by omega) x4 x5 w1
        rw [y1]
        rcases y2 with ⟨v1, v2, v3⟩ | ⟨i, v1, v2, v3, v4, v5⟩
        · obtain ⟨k3, K3, z1, z2, z3, z4, z5, z6⟩ := st 3 (N' + 1) k2 K2 (by omega) (by omega) (by omega) y4 y5 v1
          rw [z1]
          rcases z2 with ⟨u1, u2, u3⟩ | ⟨i, u1, u2, u3, u4, u5⟩
          · rw [F_X3_plan_b45, if_pos (by decide)]
            refine ⟨k3, K3, rfl, by rw [z6, y6, x6]; exact k012, Or.inr (Or.inr ⟨e2, fun k j b1 b2 b3 => ?_, u1, by rw [u2, v2, w2, k03]⟩), by omega, z4, bk z5⟩
            have : k = 1 ∨ k = 2 ∨ k = 3 := by omega
            rcases this with rfl | rfl | rfl
            · exact w3 j b3
            · exact v3 j b3
            · exact u3 j b3
          · rw [stop N' k3 _ (by rw [u4]; exact n_eq_m1 (by omega))]
            refine ⟨k3, K3, rfl, by rw [z6, y6, x6]; exact k012, done (by omega) (by omega) u1 u2 (fun k' j' b1 b2 b3 => ?_) u4 u5, by omega, z4, bk z5⟩
            have : k' = 1 ∨ k' = 2 ∨ (k' = 3 ∧ j' < i) := by omega
            rcases this with rfl | rfl | ⟨rfl, b4⟩
            · exact w3 j' b2
            · exact v3 j' b2
            · exact u3 j' b4
        · rw [stop (N' + 1) k2 _ (by rw [v4]; exact n_eq_m1 (by omega))]
          refine ⟨k2, K2, rfl, by rw [y6, x6]; exact k012, done (by omega) (by omega) v1 v2 (fun k' j' b1 b2 b3 => ?_) v4 v5, by omega, y4, bk y5⟩
          have : k' = 1 ∨ (k' = 2 ∧ j' < i) := by omega
          rcases this with rfl | ⟨rfl, b4⟩
          · exact w3 j' b2
          · exact v3 j' b4
      · rw [stop (N' + 2) k1 _ (by rw [w4]; exact n_eq_m1 (by omega))]
        refine ⟨k1, K1, rfl, by rw [x6]; exact k012, done (by omega) (by omega) w1 w2 (fun k' j' b1 b2 b3 => ?_) w4 w5, by omega, x4, bk x5⟩
        have : k' = 1 ∧ j' < i := by omega
        rw [this.1]
        exact w3 j' this.2
  · rw [if_neg (by rw [hp]; decide)]
    exact ⟨h, K, rfl, hp, hp2, by omega, SC, fun _ _ _ => rfl⟩
end
