/-! tests(): what a row of numbers tells, in the class -/
def sD (n : Nat) (d : Nat → Nat) : Nat → Prop := fun i => ∃ t, t < n ∧ d t = i
def Sg (row a n : Nat) (d : Nat → Nat) (h : PH) : Prop := ∀ t, t < n → h.1 row (a + t) = nI (d t)
section
variable {F N nv : Nat} {T : Nat → Int32 → Bool} {q : List ((Nat × Nat × Nat) × Nat × Nat × Nat)} {h h' h2 : PH}
theorem floorAt_x {x : Nat} (hF : F ≤ 6) (G : QG F q) (A : AC F T q h) (hx : x < q.length) : F_X3_floorAt (nI x) h = some (nI (qS q x).2.1, h) := by
  unfold F_X3_floorAt
  rw [stateAt_x hF G A hx, bI_s, floorC (G.1.1 x hx) hF, bI_s]
theorem img_i {p : Nat → Prop} {j l y : Nat} : tImg F T q p j l y ↔ ∃ x, p x ∧ y = bhn F T q j x ∧ lmp T (qS q y) = l := Iff.rfl
theorem one_b5 {row a n : Nat} {d : Nat → Nat} (hF : F ≤ 6) (G : QG F q) (A : AC F T q h) (S : Sg row a n d h) (hd : ∀ t, t < n → d t < q.length) (ha : a + n ≤ 3072) : ∀ m t fuel, 1 ≤ t → n ≤ t + m → t ≤ 3073 → m < fuel → (∀ s, s < t → s < n → (qS q (d s)).2.1 = (qS q (d 0)).2.1) → ∃ r, F_X3_oneFloor_b5 N row fuel (nI a) (nI (a + n)) (nI (a + t)) h = some (r, h) ∧ ((r = 1 ∧ tOne q (sD n d)) ∨ (r = 0 ∧ ¬ tOne q (sD n d))) := by
  have yes : (∀ s, s < n → (qS q (d s)).2.1 = (qS q (d 0)).2.1) → tOne q (sD n d) := fun z x y ⟨s, s1, s2⟩ ⟨w, w1, w2⟩ => by rw [← s2, ← w2, z s s1, z w w1]
  intro m
  induction m with
  | zero =>
    intro t fuel t1 e1 e3 e2 I
    obtain ⟨fu, rfl⟩ : ∃ g, fuel = g + 1 := ⟨fuel - 1, by omega⟩
    rw [F_X3_oneFloor_b5, if_pos (nI_le (by omega) (by omega))]
    exact ⟨1, rfl, Or.inl ⟨rfl, yes (fun s hs => I s (by omega) hs)⟩⟩
  | succ m ih =>
    intro t fuel t1 e1 e3 e2 I
    obtain ⟨fu, rfl⟩ : ∃ g, fuel = g + 1 := ⟨fuel - 1, by omega⟩
    by_cases g : n ≤ t
    · rw [F_X3_oneFloor_b5, if_pos (nI_le (by omega) (by omega))]
      exact ⟨1, rfl, Or.inl ⟨rfl, yes (fun s hs => I s (by omega) hs)⟩⟩
    · have h0 := S 0 (by omega)
      have o1 := (G.1.1 _ (hd t (by omega))).2.1
      have o2 := (G.1.1 _ (hd 0 (by omega))).2.1
      rw [Nat.add_zero] at h0
      rw [F_X3_oneFloor_b5, if_neg (nI_ge (by omega) (by omega)), if_pos (nI_in0 (by omega : a + t < 3072) (by omega)), nI_clamp (by omega), S t (by omega), floorAt_x hF G A (hd t (by omega)), bI_s, if_pos (nI_in0 (by omega : a < 3072) (by omega)), nI_clamp (by omega), h0, floorAt_x hF G A (hd 0 (by omega)), bI_s, ib_e, nI_1]
      by_cases e : (qS q (d t)).2.1 = (qS q (d 0)).2.1
      · rw [if_pos (by rw [e])]
        exact ih (t + 1) fu (by omega) (by omega) (by omega) (by omega) (fun s hs hn => by
          by_cases z : s = t
          · rw [z]; exact e
          · exact I s (by omega) hn)
      · rw [if_neg (fun z => e ((nI_eq (by omega) (by omega)).mp z))]
        exact ⟨0, rfl, Or.inr ⟨rfl, fun z => e (z _ _ ⟨t, by omega, rfl⟩ ⟨0, by omega, rfl⟩)⟩⟩
theorem one_x {row a n : Nat} {d : Nat → Nat} (hN : 5000 ≤ N) (hF : F ≤ 6) (G : QG F q) (A : AC F T q h) (S : Sg row a n d h) (hd : ∀ t, t < n → d t < q.length) (ha : a + n ≤ 3072) : ∃ r, F_X3_oneFloor N row (nI a) (nI (a + n)) h = some (r, h) ∧ ((r = 1 ∧ tOne q (sD n d)) ∨ (r = 0 ∧ ¬ tOne q (sD n d))) := by
  unfold F_X3_oneFloor
  rw [ib_e, nI_1]
  exact one_b5 hF G A S hd ha n 1 N (by omega) (by omega) (by omega) (by omega) (fun s hs hn => by rw [show s = 0 by omega])
/-- told at once -/
theorem ta_b13 {row a n j K : Nat} {d : Nat → Nat} (hF : F ≤ 6) (G : QG F q) (XX : XF F T q.length 0 q) (hj : j ≤ F) (hr : row ≠ 40 ∧ row ≠ 41 ∧ row ≠ 39) (hK : K < 4294967296) {h0 : PH} (A : AC F T q h0) (X : XC F T q.length 0 q h0) (S : Sg row a n d h0) (hd : ∀ t, t < n → d t < q.length) (ha : a + n ≤ 3072) (h13 : h0.1 39 13 = nI K) : ∀ m t fuel h, t + m = n → m < fuel → (∀ x y, x ≠ 40 → x ≠ 41 → h.1 x y = h0.1 x y) → (∀ i, i < 256 → ∃ w, w ≤ K ∧ h.1 40 i = nI w) → (∀ l, l < 256 → (h.1 40 l = nI K ↔ ∃ s, s < t ∧ lmp T (qS q (bhn F T q j (d s))) = l)) → (∀ s, s < t → h.1 41 (lmp T (qS q (bhn F T q j (d s)))) = nI (qS q (bhn F T q j (d s))).2.1) → okI (F_X3_tellsAtOnce_b13 N row fuel (nI (a + n)) (nI j) (nI (a + t)) h) (fun r h' => ((r = 1 ∧ ∀ l, tOne q (tImg F T q (sD n d) j l)) ∨ (r = 0 ∧ ¬ ∀ l, tOne q (tImg F T q (sD n d) j l))) ∧ (∀ i, i < 256 → ∃ w, w ≤ K ∧ h'.1 40 i = nI w) ∧ ∀ x y, x ≠ 40 → x ≠ 41 → h'.1 x y = h0.1 x y) := by
  have fl6 : ∀ s, s < n → (qS q (bhn F T q j (d s))).2.1 < 6 := fun s hs => by
    have := (G.1.1 _ (bhn_lt XX (hd s hs) hj)).2.1
    omega
  intro m
  induction m with
  | zero =>
    intro t fuel h e1 e2 f0 b0 m0 n0
    obtain ⟨fu, rfl⟩ : ∃ g, fuel = g + 1 := ⟨fuel - 1, by omega⟩
    rw [F_X3_tellsAtOnce_b13, if_pos (nI_le (by omega) (by omega))]
    refine okI_s ⟨Or.inl ⟨rfl, fun l x y hx hy => ?_⟩, b0, f0⟩
    obtain ⟨x0, ⟨s, s1, s2⟩, x1, x2⟩ := img_i.mp hx
    obtain ⟨y0, ⟨w, w1, w2⟩, y1, y2⟩ := img_i.mp hy
    subst s2
    subst w2
    rw [x1] at x2 ⊢
    rw [y1] at y2 ⊢
    have a1 := n0 s (by omega)
    have a2 := n0 w (by omega)
    rw [x2] at a1
    rw [y2] at a2
    have := a1.symm.trans a2
    exact (nI_eq (by have := fl6 s s1; omega) (by have := fl6 w w1; omega)).mp this
  | succ m ih =>
    intro t fuel h e1 e2 f0 b0 m0 n0
    obtain ⟨fu, rfl⟩ : ∃ g, fuel = g + 1 := ⟨fuel - 1, by omega⟩
    have ht : t < n := by omega
    have hb2 := bhn_lt XX (hd t ht) hj
    have ll := lmp_lt (T := T) (s := qS q (bhn F T q j (d t)))
    have A1 : AC F T q h := AC_q A (fun a b z => f0 a b (by omega) (by omega))
    have X1 : XC F T q.length 0 q h := fun a b c d e => by rw [f0 36 _ (by decide) (by decide)]; exact X a b c d e
    have c13 : h.1 39 13 = nI K := by rw [f0 39 13 (by decide) (by decide)]; exact h13
    rw [F_X3_tellsAtOnce_b13, if_neg (nI_ge (by omega) (by omega)), if_pos (nI_in0 (by omega : a + t < 3072) (by omega)), nI_clamp (by omega), f0 row _ hr.1 hr.2.1, S t ht, behind_x hF G A1 X1 (hd t ht) hj, bI_s]
    show okI (bI (F_X0_lampsAt (nI (bhn F T q j (d t))) h) _) _
    rw [lampsAt_x hF G A1 hb2, bI_s, if_pos (nI_in0 ll (by omega)), nI_clamp (by omega), if_pos (nI_in0 ll (by omega)), if_pos (nI_in0 ll (by omega)), c13]
    show okI (if _ then bI (F_X3_floorAt (nI (bhn F T q j (d t))) h) _ else hb (hs h 40 _ _) fun h14 => bI (F_X3_floorAt (nI (bhn F T q j (d t))) h14) _) _
    rw [floorAt_x hF G A1 hb2, bI_s]
    unfold F_X3_tellsAtOnce_b104
    simp only [ib_e, nI_1]
    by_cases g : ∃ s, s < t ∧ lmp T (qS q (bhn F T q j (d s))) = lmp T (qS q (bhn F T q j (d t)))
    · rw [if_pos ((m0 _ ll).mpr g)]
      obtain ⟨s, s1, s2⟩ := g
      have n1 := n0 s s1
      rw [s2] at n1
      rw [n1]
      by_cases e : (qS q (bhn F T q j (d s))).2.1 = (qS q (bhn F T q j (d t))).2.1
      · rw [if_pos (by rw [e])]
        exact ih (t + 1) fu h (by omega) (by omega) f0 b0 (fun l hl => by
          rw [m0 l hl]
          constructor
          · rintro ⟨w, w1, w2⟩; exact ⟨w, by omega, w2⟩
          · rintro ⟨w, w1, w2⟩
            by_cases z : w = t
            · exact ⟨s, s1, by rw [s2, ← z]; exact w2⟩
            · exact ⟨w, by omega, w2⟩) (fun w hw => by
          by_cases z : w = t
          · rw [z, n1, e]
          · exact n0 w (by omega))
      · rw [if_neg (fun z => e ((nI_eq (by have := fl6 s (by omega); omega) (by have := fl6 t ht; omega)).mp z))]
        refine okI_s ⟨Or.inr ⟨rfl, fun z => e ?_⟩, b0, f0⟩
        exact z (lmp T (qS q (bhn F T q j (d t)))) _ _ (img_i.mpr ⟨d s, ⟨s, by omega, rfl⟩, rfl, s2⟩) (img_i.mpr ⟨d t, ⟨t, ht, rfl⟩, rfl, rfl⟩)
    · rw [if_neg (fun z => g ((m0 _ ll).mp z)), hb_e]
      have A2 : AC F T q (hs h 40 (lmp T (qS q (bhn F T q j (d t)))) (nI K)) := AC_q A1 (fun a b z => by rw [hs_o (by omega)])
      rw [floorAt_x hF G A2 hb2, bI_s, hb_e]
      refine ih (t + 1) fu _ (by omega) (by omega) (fun x y z1 z2 => by rw [hs_o z2, hs_o z1]; exact f0 x y z1 z2) (fun i hi => ?_) (fun l hl => ?_) (fun w hw => ?_)
      · rw [hs_o (by decide), hs_1, if_pos rfl]
        by_cases z : i = lmp T (qS q (bhn F T q j (d t)))
        · rw [if_pos z]; exact ⟨K, Nat.le_refl _, rfl⟩
        · rw [if_neg z]; exact b0 i hi
      · rw [hs_o (by decide), hs_1, if_pos rfl]
        by_cases z : l = lmp T (qS q (bhn F T q j (d t)))
        · rw [if_pos z]
          exact ⟨fun _ => ⟨t, by omega, z.symm⟩, fun _ => rfl⟩
        · rw [if_neg z, m0 l hl]
          constructor
          · rintro ⟨w, w1, w2⟩; exact ⟨w, by omega, w2⟩
          · rintro ⟨w, w1, w2⟩
            by_cases y : w = t
            · rw [y] at w2; exact absurd w2.symm z
            · exact ⟨w, by omega, w2⟩
      · rw [hs_1, if_pos rfl]
        by_cases z : lmp T (qS q (bhn F T q j (d w))) = lmp T (qS q (bhn F T q j (d t)))
        · by_cases y : w = t
          · rw [y, if_pos rfl]
          · exact absurd ⟨w, by omega, z⟩ g
        · rw [if_neg z, hs_o (by decide)]
          exact n0 w (by
            by_cases y : w = t
            · rw [y] at z; exact absurd rfl z
            · omega)
theorem ta_x {row a n j K : Nat} {d : Nat → Nat} (hN : 5000 ≤ N) (hF : F ≤ 6) (G : QG F q) (XX : XF F T q.length 0 q) (hj : j ≤ F) (hr : row ≠ 40 ∧ row ≠ 41 ∧ row ≠ 39) (hK : K + 1 < 4294967296) (A : AC F T q h) (X : XC F T q.length 0 q h) (S : Sg row a n d h) (hd : ∀ t, t < n → d t < q.length) (ha : a + n ≤ 3072) (SC : StC K h) : okI (F_X3_tellsAtOnce N row (nI a) (nI (a + n)) (nI j) h) (fun r h' => ((r = 1 ∧ ∀ l, tOne q (tImg F T q (sD n d) j l)) ∨ (r = 0 ∧ ¬ ∀ l, tOne q (tImg F T q (sD n d) j l))) ∧ StC (K + 1) h' ∧ ∀ x y, x ≠ 40 → x ≠ 41 → ¬ (x = 39 ∧ y = 13) → h'.1 x y = h.1 x y) := by
  obtain ⟨s1, s2, s3⟩ := SC
  unfold F_X3_tellsAtOnce
  rw [hb_e, s1, nI_1]
  have c : ∀ x y, ¬ (x = 39 ∧ y = 13) → (hs h 39 13 (nI (K + 1))).1 x y = h.1 x y := fun x y z => by
    rw [hs_1]
    by_cases e : x = 39
    · rw [if_pos e, if_neg (by omega)]
    · rw [if_neg e]
  have := ta_b13 (N := N) (h0 := hs h 39 13 (nI (K + 1))) (K := K + 1) hF G XX hj hr hK (AC_q A (fun a b z => c a b (by omega))) (fun a b y z w => by rw [c 36 _ (by omega)]; exact X a b y z w) (fun t ht => by rw [c row _ (by omega)]; exact S t ht) hd ha (by simp [hs_1]) n 0 N _ (by omega) (by omega) (fun _ _ _ _ => rfl) (fun i hi => by
    rw [c 40 i (by omega)]
    obtain ⟨w, w1, w2⟩ := s3 i hi
    exact ⟨w, by omega, w2⟩) (fun l hl => by
    rw [c 40 l (by omega)]
    obtain ⟨w, w1, w2⟩ := s3 l hl
    rw [w2]
    constructor
    · intro z
      have := (nI_e32 (by omega) (by omega)).mp z
      omega
    · rintro ⟨s, s1, -⟩; omega) (fun s hs => by omega)
  rw [Nat.add_zero] at this
  refine okI_m this (fun r h' z => ⟨z.1, ⟨?_, fun i hi => ?_, z.2.1⟩, fun x y z1 z2 z3 => by rw [z.2.2 x y z1 z2]; exact c x y z3⟩)
  · rw [z.2.2 39 13 (by decide) (by decide)]; simp [hs_1]
  · rw [z.2.2 43 i (by decide) (by decide), c 43 i (by omega)]
    obtain ⟨w, w1, w2⟩ := s2 i hi
    exact ⟨w, by omega, w2⟩
end
