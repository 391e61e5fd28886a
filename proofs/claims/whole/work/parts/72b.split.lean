/-! tests(): the groups laid one behind another, in the class -/
section
variable {F N nv : Nat} {T : Nat → Int32 → Bool} {q : List ((Nat × Nat × Nat) × Nat × Nat × Nat)} {h h' h2 : PH}
theorem stb_b4 {R g : Nat} {sz : Nat → Nat} (hg : g ≤ 256) (hs' : fb_sm sz g ≤ 3072) {h0 : PH} : ∀ m i fuel h, i + m = g → m < fuel → (∀ a, a < i → h.1 R a = nI (fb_sm sz a)) → (∀ a, i ≤ a → a < g → h.1 R a = nI (sz a)) → (∀ x y, x ≠ R → h.1 x y = h0.1 x y) → okV (F_X3_sizesToBegins_b4 N R fuel (nI g) (nI (fb_sm sz i)) (nI i) h) (fun h' => (∀ a, a < g → h'.1 R a = nI (fb_sm sz a)) ∧ ∀ x y, x ≠ R → h'.1 x y = h0.1 x y) := by
  intro m
  induction m with
  | zero =>
    intro i fuel h e1 e2 p1 p2 p3
    obtain ⟨fu, rfl⟩ : ∃ g, fuel = g + 1 := ⟨fuel - 1, by omega⟩
    rw [F_X3_sizesToBegins_b4, if_pos (nI_le (by omega) (by omega))]
    exact okV_s ⟨fun a ha => p1 a (by omega), p3⟩
  | succ m ih =>
    intro i fuel h e1 e2 p1 p2 p3
    obtain ⟨fu, rfl⟩ : ∃ g, fuel = g + 1 := ⟨fuel - 1, by omega⟩
    rw [F_X3_sizesToBegins_b4, if_neg (nI_ge (by omega) (by omega)), if_pos (nI_in0 (by omega : i < 256) (by omega)), nI_clamp (by omega), p2 i (Nat.le_refl _) (by omega), ib_e, hb_e, nI_add, ib_e, nI_1, ib_e]
    refine ih (i + 1) fu _ (by omega) (by omega) (fun a ha => ?_) (fun a ha hb' => ?_) (fun x y z => by rw [hs_o z]; exact p3 x y z)
    · rw [hs_1, if_pos rfl]
      by_cases z : a = i
      · rw [if_pos z, z]
      · rw [if_neg z]; exact p1 a (by omega)
    · rw [hs_1, if_pos rfl, if_neg (by omega)]; exact p2 a (by omega) hb'
/-- as many as there are, each in one group -/
theorem sm_one {g a0 : Nat} (h : a0 < g) : fb_sm (fun a => if a = a0 then 1 else 0) g = 1 := by
  have := fb_sm_upd (fun _ => 0) 1 h
  rw [fb_sm_const] at this
  simpa using this
theorem sm_all {g : Nat} {Lg : Nat → Nat} {la : Nat → Nat} {f : Nat} (i6 : ∀ a b, a < b → b < g → Lg a ≠ Lg b) (i7 : ∀ s, s < f → ∃ a, a < g ∧ Lg a = la s) : ∀ i, i ≤ f → fb_sm (fun a => fb_ct (fun s => decide (la s = Lg a)) i) g = i := by
  intro i
  induction i with
  | zero => intro _; rw [show (fun a => fb_ct (fun s => decide (la s = Lg a)) 0) = fun _ => 0 from rfl, fb_sm_const]; omega
  | succ i ih =>
    intro hi
    obtain ⟨a0, a1, a2⟩ := i7 i (by omega)
    rw [fb_sm_cong (g := fun a => fb_ct (fun s => decide (la s = Lg a)) i + if a = a0 then 1 else 0) (fun a ha => by
      rw [fb_ct_succ]
      congr 1
      by_cases z : a = a0
      · subst z; simp [a2]
      · have : ¬ la i = Lg a := fun c => by
          rw [← a2] at c
          rcases Nat.lt_or_gt_of_ne z with y | y
          · exact i6 a a0 y a1 c.symm
          · exact i6 a0 a y ha c
        simp [this, z]), fb_sm_add, ih (by omega), sm_one a1]
theorem sp_173 {row v g f : Nat} {Im Lg : Nat → Nat} (hv : v < 2) (hF : F ≤ 6) (G : QG F q) (hg : g ≤ 256) (hf : f ≤ 3072) (i2 : ∀ s, s < f → Im s < q.length) (i6 : ∀ a b, a < b → b < g → Lg a ≠ Lg b) (i7 : ∀ s, s < f → ∃ a, a < g ∧ Lg a = lmp T (qS q (Im s))) {h0 : PH} (A : AC F T q h0) (h44 : ∀ s, s < f → h0.1 44 s = nI (Im s)) (h41 : ∀ a, a < g → h0.1 41 (Lg a) = nI a) : ∀ m i fuel h, i + m = f → m < fuel → (∀ a, a < g → h.1 (49 + v) a = nI (fb_sm (fun a => fb_ct (fun s => decide (lmp T (qS q (Im s)) = Lg a)) f) a + fb_ct (fun s => decide (lmp T (qS q (Im s)) = Lg a)) i)) → (∀ s a, s < i → a < g → lmp T (qS q (Im s)) = Lg a → h.1 (46 + v) (fb_sm (fun a => fb_ct (fun s => decide (lmp T (qS q (Im s)) = Lg a)) f) a + fb_ct (fun s => decide (lmp T (qS q (Im s)) = Lg a)) s) = nI (Im s)) → (∀ x y, x ≠ 46 + v → x ≠ 49 + v → h.1 x y = h0.1 x y) → okI (F_X3_split_b173 N row fuel (nI v) (49 + v) (nI g) (nI f) (nI i) h) (fun r h' => r = nI g ∧ (∀ a, a < g → h'.1 (49 + v) a = nI (fb_sm (fun a => fb_ct (fun s => decide (lmp T (qS q (Im s)) = Lg a)) f) (a + 1))) ∧ (∀ s a, s < f → a < g → lmp T (qS q (Im s)) = Lg a → h'.1 (46 + v) (fb_sm (fun a => fb_ct (fun s => decide (lmp T (qS q (Im s)) = Lg a)) f) a + fb_ct (fun s => decide (lmp T (qS q (Im s)) = Lg a)) s) = nI (Im s)) ∧ ∀ x y, x ≠ 46 + v → x ≠ 49 + v → h'.1 x y = h0.1 x y) := by
  have tot := sm_all i6 i7 f (Nat.le_refl _)
  intro m
  induction m with
  | zero =>
    intro i fuel h e1 e2 p1 p2 p3
    obtain ⟨fu, rfl⟩ : ∃ g, fuel = g + 1 := ⟨fuel - 1, by omega⟩
    rw [F_X3_split_b173, if_pos (nI_le (by omega) (by omega))]
    rw [show i = f by omega] at p1 p2
    exact okI_s ⟨rfl, fun a ha => by rw [p1 a ha, fb_sm_succ], p2, p3⟩
  | succ m ih =>
    intro i fuel h e1 e2 p1 p2 p3
    obtain ⟨fu, rfl⟩ : ∃ g, fuel = g + 1 := ⟨fuel - 1, by omega⟩
    obtain ⟨a0, a1, a2⟩ := i7 i (by omega)
    have ll := lmp_lt (T := T) (s := qS q (Im i))
    have A1 : AC F T q h := AC_q A (fun a b z => p3 a b (by omega) (by omega))
    have ql := QD_le G.1 hF
    have part := fb_sm_part (fun a => fb_ct (fun s => decide (lmp T (qS q (Im s)) = Lg a)) f) a1
    have ci : fb_ct (fun s => decide (lmp T (qS q (Im s)) = Lg a0)) (i + 1) ≤ fb_ct (fun s => decide (lmp T (qS q (Im s)) = Lg a0)) f := fb_ct_mono _ (by omega)
    have ci1 : fb_ct (fun s => decide (lmp T (qS q (Im s)) = Lg a0)) (i + 1) = fb_ct (fun s => decide (lmp T (qS q (Im s)) = Lg a0)) i + 1 := by rw [fb_ct_succ]; simp [a2]
    have h41' := h41 a0 a1
    rw [a2] at h41'
    rw [F_X3_split_b173, if_neg (nI_ge (by omega) (by omega)), if_pos (nI_in0 (by omega : i < 3072) (by omega)), nI_clamp (by omega), p3 44 i (by omega) (by omega), h44 i (by omega), lampsAt_x hF G A1 (i2 i (by omega)), bI_s, if_pos (nI_in0 ll (by omega)), nI_clamp (by omega), p3 41 _ (by omega) (by omega), h41', ib_e, if_pos (nI_in0 hv (by omega)), if_pos (nI_in0 (by omega : a0 < 256) (by omega)), nI_clamp (by omega), nI_clamp (by omega), p1 a0 a1, if_pos (nI_in0 (by omega) (by omega)), nI_clamp (by omega), hb_e, hb_e, ib_e, nI_1, hs_o (show 49 + v ≠ 46 + v by omega), p1 a0 a1, nI_1]
    refine ih (i + 1) fu _ (by omega) (by omega) (fun a ha => ?_) (fun s a hs' ha e => ?_) (fun x y z1 z2 => by rw [hs_o z2, hs_o z1]; exact p3 x y z1 z2)
    · rw [hs_1, if_pos rfl]
      by_cases z : a = a0
      · subst z
        rw [if_pos rfl, ci1]
        congr 1
      · rw [if_neg z, hs_o (by omega), p1 a ha]
        have : ¬ lmp T (qS q (Im i)) = Lg a := fun c => by
          rw [← a2] at c
          rcases Nat.lt_or_gt_of_ne z with y | y
          · exact i6 a a0 y a1 c.symm
          · exact i6 a0 a y ha c
        congr 2
        rw [fb_ct_succ]
        simp [this]
    · rw [hs_o (by omega), hs_1, if_pos rfl]
      by_cases z : a = a0
      · subst z
        by_cases y : s = i
        · subst y; rw [if_pos rfl, p3 44 s (by omega) (by omega)]; exact h44 s (by omega)
        · have mono : fb_ct (fun s => decide (lmp T (qS q (Im s)) = Lg a)) (s + 1) ≤ fb_ct (fun s => decide (lmp T (qS q (Im s)) = Lg a)) i := fb_ct_mono _ (by omega)
          have : fb_ct (fun s => decide (lmp T (qS q (Im s)) = Lg a)) (s + 1) = fb_ct (fun s => decide (lmp T (qS q (Im s)) = Lg a)) s + 1 := by rw [fb_ct_succ]; simp [e]
          rw [if_neg (by omega)]
          exact p2 s a (by omega) ha e
      · have si : s ≠ i := fun c => by
          rw [c, ← a2] at e
          rcases Nat.lt_or_gt_of_ne z with y | y
          · exact i6 a a0 y a1 e.symm
          · exact i6 a0 a y ha e
        have part2 := fb_sm_part (fun a => fb_ct (fun s => decide (lmp T (qS q (Im s)) = Lg a)) f) (n := g) ha
        have cs : fb_ct (fun s => decide (lmp T (qS q (Im s)) = Lg a)) (s + 1) ≤ fb_ct (fun s => decide (lmp T (qS q (Im s)) = Lg a)) f := fb_ct_mono _ (by omega)
        have cs1 : fb_ct (fun s => decide (lmp T (qS q (Im s)) = Lg a)) (s + 1) = fb_ct (fun s => decide (lmp T (qS q (Im s)) = Lg a)) s + 1 := by rw [fb_ct_succ]; simp [e]
        rw [if_neg (fun c => by
          rcases Nat.lt_or_gt_of_ne z with y | y
          · have := fb_sm_part (fun a => fb_ct (fun s => decide (lmp T (qS q (Im s)) = Lg a)) f) y
            omega
          · have := fb_sm_part (fun a => fb_ct (fun s => decide (lmp T (qS q (Im s)) = Lg a)) f) y
            omega)]
        exact p2 s a (by omega) ha e
/-- those behind a tick lie in groups, each the image that shows its lamps -/
theorem split_x {row a n j K v : Nat} {d : Nat → Nat} (hN : 5000 ≤ N) (hv : v < 2) (hF : F ≤ 6) (G : QG F q) (XX : XF F T q.length 0 q) (hj : j ≤ F) (hr : row = 42 ∨ (46 ≤ row ∧ row ≤ 47 ∧ row ≠ 46 + v)) (hK : K + 1 < 4294967296) (A : AC F T q h) (X : XC F T q.length 0 q h) (S : Sg row a n d h) (hd : ∀ t, t < n → d t < q.length) (ha : a + n ≤ 3072) (SC : StC K h) : ∃ (g : Nat) (sz : Nat → Nat) (el : Nat → Nat → Nat) (Lg : Nat → Nat) (h' : PH), F_X3_split N row (nI a) (nI (a + n)) (nI j) (nI v) h = some (nI g, h') ∧ g ≤ 256 ∧ fb_sm sz g ≤ n ∧ (∀ b, b < g → 1 ≤ sz b ∧ h'.1 (49 + v) b = nI (fb_sm sz (b + 1)) ∧ Sg (46 + v) (fb_sm sz b) (sz b) (el b) h' ∧ (∀ c, c < sz b → el b c < q.length) ∧ sD (sz b) (el b) = tImg F T q (sD n d) j (Lg b)) ∧ (∀ l y, tImg F T q (sD n d) j l y → ∃ b, b < g ∧ Lg b = l) ∧ StC (K + 1) h' ∧ SpF v h h' := by
  obtain ⟨s1, s2, s3⟩ := SC
  have ql := QD_le G.1 hF
  have c : ∀ x y, ¬ (x = 39 ∧ y = 13) → (hs h 39 13 (nI (K + 1))).1 x y = h.1 x y := fun x y z => by
    rw [hs_1]
    by_cases e : x = 39
    · rw [if_pos e, if_neg (by omega)]
    · rw [if_neg e]
  unfold F_X3_split
  rw [hb_e, s1, nI_1, if_pos (nI_in0 hv (by omega)), nI_clamp (by omega)]
  have main := sp_28 (N := N) (h0 := hs h 39 13 (nI (K + 1))) (K := K + 1) (P := fun r h' => ∃ (g : Nat) (sz : Nat → Nat) (el : Nat → Nat → Nat) (Lg : Nat → Nat), r = nI g ∧ g ≤ 256 ∧ fb_sm sz g ≤ n ∧ (∀ b, b < g → 1 ≤ sz b ∧ h'.1 (49 + v) b = nI (fb_sm sz (b + 1)) ∧ Sg (46 + v) (fb_sm sz b) (sz b) (el b) h' ∧ (∀ c, c < sz b → el b c < q.length) ∧ sD (sz b) (el b) = tImg F T q (sD n d) j (Lg b)) ∧ (∀ l y, tImg F T q (sD n d) j l y → ∃ b, b < g ∧ Lg b = l) ∧ StC (K + 1) h' ∧ SpF v h h') hv hF G XX hj hr hK (AC_q A (fun a b z => c a b (by omega))) (fun a b y z w => by rw [c 36 _ (by omega)]; exact X a b y z w) (fun t ht => by rw [c row _ (by omega)]; exact S t ht) hd ha ?_ n 0 N _ 0 0 (fun _ => 0) (fun _ => 0) (by omega) (by omega) ⟨by omega, fun s hs => by omega, fun s w _ hw => by omega, fun y => ⟨fun ⟨s, z, _⟩ => by omega, fun ⟨s, z, _⟩ => by omega⟩, fun a ha => by omega, fun a b _ hb' => by omega, fun l => ⟨fun ⟨s, z, _⟩ => by omega, fun ⟨s, z, _⟩ => by omega⟩, by simp [hs_1], fun i hi => by
    rw [c 43 i (by omega)]
    obtain ⟨w, w1, w2⟩ := s2 i hi
    exact ⟨w, by omega, w2⟩, fun y hy => by
    rw [c 43 y (by omega)]
    obtain ⟨w, w1, w2⟩ := s2 y (by omega)
    rw [w2]
    exact ⟨fun z => by have := (nI_e32 (by omega) (by omega)).mp z; omega, fun ⟨s, z, _⟩ => by omega⟩, fun i hi => by
    rw [c 40 i (by omega)]
    obtain ⟨w, w1, w2⟩ := s3 i hi
    exact ⟨w, by omega, w2⟩, fun l hl => by
    rw [c 40 l (by omega)]
    obtain ⟨w, w1, w2⟩ := s3 l hl
    rw [w2]
    exact ⟨fun z => by have := (nI_e32 (by omega) (by omega)).mp z; omega, fun ⟨s, z, _⟩ => by omega⟩, fun a ha => by omega, fun a ha => by omega⟩ (fun _ _ _ => rfl) (fun _ => rfl)
  · rw [Nat.add_zero] at main
    obtain ⟨r, h', e1, g, sz, el, Lg, rfl, rest⟩ := main
    exact ⟨g, sz, el, Lg, h', e1, rest⟩
  · intro k f g Im Lg I ff f46
    obtain ⟨i1, i2, i3, i4, i5, i6, i7, i8, i9, i10, i11, i12, i13, i14⟩ := I
    have gl := fb_holes 256 g Lg i5 i6
    have fl' := fb_holes q.length f Im (fun s hs => (i2 s hs).2) i3
    have i7' : ∀ s, s < f → ∃ a, a < g ∧ Lg a = lmp T (qS q (Im s)) := fun s hs => (i7 _).mpr ⟨s, hs, rfl⟩
    have tot := sm_all i6 i7' f (Nat.le_refl _)
    unfold F_X3_split_b163 F_X3_sizesToBegins
    obtain ⟨k1, x1, x2, x3⟩ := stb_b4 (N := N) (R := 49 + v) (sz := fun a => fb_ct (fun s => decide (lmp T (qS q (Im s)) = Lg a)) f) gl (by omega) (h0 := k) g 0 N k (by omega) (by omega) (fun a ha => by omega) (fun a _ ha => i14 a ha) (fun _ _ _ => rfl)
    rw [show F_X3_sizesToBegins_b4 N (49 + v) N (nI g) 0 0 k = some k1 from x1, bV_s]
    have A1 : AC F T q k1 := AC_q A (fun a b z => by rw [x3 a b (by omega), ff a b (by omega), c a b (by omega)])
    obtain ⟨r, k2, y1, rfl, y3, y4, y5⟩ := sp_173 (N := N) (row := row) (h0 := k1) hv hF G gl (by omega) (fun s hs => (i2 s hs).2) i6 i7' A1 (fun s hs => by rw [x3 44 s (by omega)]; exact (i2 s hs).1) (fun a ha => by rw [x3 41 _ (by omega)]; exact i13 a ha) f 0 N k1 (by omega) (by omega) (fun a ha => by rw [x2 a ha]; rfl) (fun s a hs => by omega) (fun _ _ _ _ => rfl)
    rw [show F_X3_split_b173 N row N (nI v) (49 + v) (nI g) (nI f) 0 k1 = some (nI g, k2) from y1]
    have k2k : ∀ x y, x ≠ 46 + v → x ≠ 49 + v → k2.1 x y = k.1 x y := fun x y z1 z2 => by rw [y5 x y z1 z2, x3 x y z2]
    -- the elements of a group
    have pick : ∀ b, b < g → ∀ c, c < fb_ct (fun s => decide (lmp T (qS q (Im s)) = Lg b)) f → ∃ s, s < f ∧ lmp T (qS q (Im s)) = Lg b ∧ k2.1 (46 + v) (fb_sm (fun a => fb_ct (fun s => decide (lmp T (qS q (Im s)) = Lg a)) f) b + c) = nI (Im s) := fun b hb' c hc => by
      obtain ⟨s, p1, p2, p3⟩ := fb_ct_kth hc
      have p2' := of_decide_eq_true p2
      exact ⟨s, p1, p2', by rw [← p3]; exact y4 s b p1 hb' p2'⟩
    refine okI_s ⟨g, fun a => fb_ct (fun s => decide (lmp T (qS q (Im s)) = Lg a)) f, fun b c => (k2.1 (46 + v) (fb_sm (fun a => fb_ct (fun s => decide (lmp T (qS q (Im s)) = Lg a)) f) b + c)).toNatClampNeg, Lg, rfl, gl, by omega, fun b hb' => ⟨?_, y3 b hb', fun cc hc => ?_, fun cc hc => ?_, ?_⟩, fun l y hy => ?_, ⟨?_, fun i hi => ?_, fun i hi => ?_⟩, fun x y z => ?_⟩
    · obtain ⟨s, p1, p2⟩ := (i7 (Lg b)).mp ⟨b, hb', rfl⟩
      exact fb_ct_pos.mpr ⟨s, p1, decide_eq_true p2⟩
    · obtain ⟨s, p1, p2, p3⟩ := pick b hb' cc hc
      have := (i2 s p1).2
      simp only
      rw [p3, nI_clamp (by omega)]
    · obtain ⟨s, p1, p2, p3⟩ := pick b hb' cc hc
      have := (i2 s p1).2
      simp only
      rw [p3, nI_clamp (by omega)]
      exact this
    · funext y
      apply propext
      constructor
      · rintro ⟨cc, hc, e⟩
        obtain ⟨s, p1, p2, p3⟩ := pick b hb' cc hc
        have := (i2 s p1).2
        simp only at e
        rw [p3, nI_clamp (by omega)] at e
        obtain ⟨w, w1, w2⟩ := (i4 (Im s)).mp ⟨s, p1, rfl⟩
        rw [← e]
        exact img_i.mpr ⟨d w, ⟨w, w1, rfl⟩, w2.symm, p2⟩
      · intro hy
        obtain ⟨x0, ⟨w, w1, w2⟩, p1, p2⟩ := img_i.mp hy
        obtain ⟨s, z1, z2⟩ := (i4 y).mpr ⟨w, w1, by rw [w2]; exact p1.symm⟩
        have lb : lmp T (qS q (Im s)) = Lg b := by rw [z2]; exact p2
        have c1 : fb_ct (fun s => decide (lmp T (qS q (Im s)) = Lg b)) (s + 1) ≤ fb_ct (fun s => decide (lmp T (qS q (Im s)) = Lg b)) f := fb_ct_mono _ (by omega)
        have c2 : fb_ct (fun s => decide (lmp T (qS q (Im s)) = Lg b)) (s + 1) = fb_ct (fun s => decide (lmp T (qS q (Im s)) = Lg b)) s + 1 := by rw [fb_ct_succ]; simp [lb]
        refine ⟨fb_ct (fun s => decide (lmp T (qS q (Im s)) = Lg b)) s, by show _ < fb_ct (fun s => decide (lmp T (qS q (Im s)) = Lg b)) f; omega, ?_⟩
        simp only
        have := (i2 s z1).2
        rw [y4 s b z1 hb' lb, nI_clamp (by omega), z2]
    · obtain ⟨x0, ⟨w, w1, w2⟩, p1, p2⟩ := img_i.mp hy
      obtain ⟨s, z1, z2⟩ := (i4 y).mpr ⟨w, w1, by rw [w2]; exact p1.symm⟩
      exact (i7 l).mpr ⟨s, z1, by rw [z2]; exact p2⟩
    · rw [k2k 39 13 (by omega) (by omega)]; exact i8
    · rw [k2k 43 i (by omega) (by omega)]; exact i9 i hi
    · rw [k2k 40 i (by omega) (by omega)]; exact i11 i hi
    · rw [k2k x y (by omega) (by omega), ff x y z, c x y (by omega)]
end
