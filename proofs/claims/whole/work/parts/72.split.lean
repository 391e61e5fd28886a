/-! tests(): those behind a tick, cut by their lamps, in the class -/
/-- what the first pass has found: f numbers Im, g groups of the lamps Lg -/
def SpI (F : Nat) (T : Nat → Int32 → Bool) (q : List ((Nat × Nat × Nat) × Nat × Nat × Nat)) (v K j : Nat) (d : Nat → Nat) (t f g : Nat) (Im Lg : Nat → Nat) (h : PH) : Prop := f ≤ t ∧ (∀ s, s < f → h.1 44 s = nI (Im s) ∧ Im s < q.length) ∧ (∀ s w, s < w → w < f → Im s ≠ Im w) ∧ (∀ y, (∃ s, s < f ∧ Im s = y) ↔ ∃ s, s < t ∧ bhn F T q j (d s) = y) ∧ (∀ a, a < g → Lg a < 256) ∧ (∀ a b, a < b → b < g → Lg a ≠ Lg b) ∧ (∀ l, (∃ a, a < g ∧ Lg a = l) ↔ ∃ s, s < f ∧ lmp T (qS q (Im s)) = l) ∧ h.1 39 13 = nI K ∧ (∀ i, i < 3072 → ∃ w, w ≤ K ∧ h.1 43 i = nI w) ∧ (∀ y, y < q.length → (h.1 43 y = nI K ↔ ∃ s, s < f ∧ Im s = y)) ∧ (∀ i, i < 256 → ∃ w, w ≤ K ∧ h.1 40 i = nI w) ∧ (∀ l, l < 256 → (h.1 40 l = nI K ↔ ∃ a, a < g ∧ Lg a = l)) ∧ (∀ a, a < g → h.1 41 (Lg a) = nI a) ∧ ∀ a, a < g → h.1 (49 + v) a = nI (fb_ct (fun s => decide (lmp T (qS q (Im s)) = Lg a)) f)
def SpF (v : Nat) (h h' : PH) : Prop := ∀ x y, ¬ (x = 40 ∨ x = 41 ∨ x = 43 ∨ x = 44 ∨ x = 46 + v ∨ x = 49 + v ∨ (x = 39 ∧ y = 13)) → h'.1 x y = h.1 x y
section
variable {F N nv : Nat} {T : Nat → Int32 → Bool} {q : List ((Nat × Nat × Nat) × Nat × Nat × Nat)} {h h' h2 : PH}
theorem SpF_t {v : Nat} (a : SpF v h h') (b : SpF v h' h2) : SpF v h h2 := fun x y z => (b x y z).trans (a x y z)
theorem upd_ne {f : Nat → Nat} {k x s : Nat} (h : s ≠ k) : (fun i => if i = k then x else f i) s = f s := if_neg h
theorem sp_28 {row a n j K v : Nat} {d : Nat → Nat} {P : Int32 → PH → Prop} (hv : v < 2) (hF : F ≤ 6) (G : QG F q) (XX : XF F T q.length 0 q) (hj : j ≤ F) (hr : row = 42 ∨ (46 ≤ row ∧ row ≤ 47 ∧ row ≠ 46 + v)) (hK : K < 4294967296) {h0 : PH} (A : AC F T q h0) (X : XC F T q.length 0 q h0) (S : Sg row a n d h0) (hd : ∀ t, t < n → d t < q.length) (ha : a + n ≤ 3072) (fin : ∀ h f g Im Lg, SpI F T q v K j d n f g Im Lg h → SpF v h0 h → (∀ y, h.1 (46 + v) y = h0.1 (46 + v) y) → okI (F_X3_split_b163 N row (nI v) (49 + v) (nI g) (nI f) h) P) : ∀ m t fuel h f g Im Lg, t + m = n → m < fuel → SpI F T q v K j d t f g Im Lg h → SpF v h0 h → (∀ y, h.1 (46 + v) y = h0.1 (46 + v) y) → okI (F_X3_split_b28 N row fuel (nI (a + n)) (nI j) (nI v) (49 + v) (nI g) (nI f) (nI (a + t)) h) P := by
  have ql := QD_le G.1 hF
  intro m
  induction m with
  | zero =>
    intro t fuel h f g Im Lg e1 e2 I ff f46
    obtain ⟨fu, rfl⟩ : ∃ g, fuel = g + 1 := ⟨fuel - 1, by omega⟩
    rw [F_X3_split_b28, if_pos (nI_le (by omega) (by omega))]
    rw [show t = n by omega] at I
    exact fin h f g Im Lg I ff f46
  | succ m ih =>
    intro t fuel h f g Im Lg e1 e2 I ff f46
    obtain ⟨fu, rfl⟩ : ∃ g, fuel = g + 1 := ⟨fuel - 1, by omega⟩
    have ht : t < n := by omega
    obtain ⟨i1, i2, i3, i4, i5, i6, i7, i8, i9, i10, i11, i12, i13, i14⟩ := id I
    have hb2 := bhn_lt XX (hd t ht) hj
    generalize hy0 : bhn F T q j (d t) = y0 at hb2
    have ll := lmp_lt (T := T) (s := qS q y0)
    have A1 : AC F T q h := AC_q A (fun a b z => ff a b (by omega))
    have X1 : XC F T q.length 0 q h := fun a b c d e => by rw [ff 36 _ (by omega)]; exact X a b c d e
    have rc : h.1 row (a + t) = nI (d t) := by rw [ff row _ (by omega)]; exact S t ht
    rw [F_X3_split_b28, if_neg (nI_ge (by omega) (by omega)), if_pos (nI_in0 (by omega : a + t < 3072) (by omega)), nI_clamp (by omega), rc, behind_x hF G A1 X1 (hd t ht) hj, bI_s, show qIx q (nxt F T (qS q (d t)) j).1 = y0 from hy0, if_pos (nI_in0 (by omega : y0 < 3072) (by omega)), nI_clamp (by omega), i8]
    unfold F_X3_split_b157
    simp only [ib_e, nI_1]
    by_cases g1 : ∃ s, s < f ∧ Im s = y0
    · rw [if_pos ((i10 y0 hb2).mpr g1)]
      refine ih (t + 1) fu h f g Im Lg (by omega) (by omega) ⟨by omega, i2, i3, fun y => ?_, i5, i6, i7, i8, i9, i10, i11, i12, i13, i14⟩ ff f46
      rw [i4 y]
      constructor
      · rintro ⟨s, s1, s2⟩; exact ⟨s, by omega, s2⟩
      · rintro ⟨s, s1, s2⟩
        by_cases z : s = t
        · rw [z, hy0] at s2
          rw [← s2]
          exact (i4 y0).mp g1
        · exact ⟨s, by omega, s2⟩
    · rw [if_neg (fun z => g1 ((i10 y0 hb2).mp z)), if_pos (nI_in0 (by omega : y0 < 3072) (by omega)), hb_e]
      -- one more is found
      have inj2 : ∀ s w, s < w → w < f + 1 → (fun i => if i = f then y0 else Im i) s ≠ (fun i => if i = f then y0 else Im i) w := fun s w h1 h2 => by
        rw [upd_ne (show s ≠ f by omega)]
        by_cases z : w = f
        · subst z; simp; exact fun e => g1 ⟨s, by omega, e⟩
        · rw [upd_ne z]; exact i3 s w h1 (by omega)
      have lt2 : ∀ s, s < f + 1 → (fun i => if i = f then y0 else Im i) s < q.length := fun s hs => by
        by_cases z : s = f
        · subst z; simp; exact hb2
        · rw [upd_ne z]; exact (i2 s (by omega)).2
      have fq1 := fb_holes q.length (f + 1) _ lt2 inj2
      rw [if_pos (nI_in0 (by omega : f < 3072) (by omega)), nI_clamp (show f < 2 ^ 31 by omega), hb_e]
      generalize hk1 : hs (hs h 43 y0 (nI K)) 44 f (nI y0) = k1
      have c1 : ∀ x y, x ≠ 43 → x ≠ 44 → k1.1 x y = h.1 x y := fun x y z1 z2 => by rw [← hk1, hs_o z2, hs_o z1]
      have A2 : AC F T q k1 := AC_q A1 (fun a b z => c1 a b (by omega) (by omega))
      rw [lampsAt_x hF G A2 hb2, bI_s, if_pos (nI_in0 ll (by omega)), nI_clamp (by omega), if_pos (nI_in0 ll (by omega)), c1 40 _ (by decide) (by decide), c1 39 13 (by decide) (by decide), i8]
      have im1 : ∀ y, (∃ s, s < f + 1 ∧ (fun i => if i = f then y0 else Im i) s = y) ↔ (∃ s, s < f ∧ Im s = y) ∨ y = y0 := fun y => by
        constructor
        · rintro ⟨s, s1, s2⟩
          by_cases z : s = f
          · subst z; simp at s2; exact Or.inr s2.symm
          · rw [upd_ne z] at s2; exact Or.inl ⟨s, by omega, s2⟩
        · rintro (⟨s, s1, s2⟩ | z)
          · exact ⟨s, by omega, by rw [upd_ne (by omega)]; exact s2⟩
          · exact ⟨f, by omega, by simp [z]⟩
      have im4 : ∀ y, (∃ s, s < f + 1 ∧ (fun i => if i = f then y0 else Im i) s = y) ↔ ∃ s, s < t + 1 ∧ bhn F T q j (d s) = y := fun y => by
        rw [im1, i4 y]
        constructor
        · rintro (⟨s, s1, s2⟩ | z)
          · exact ⟨s, by omega, s2⟩
          · exact ⟨t, by omega, by rw [hy0, z]⟩
        · rintro ⟨s, s1, s2⟩
          by_cases z : s = t
          · rw [z, hy0] at s2; exact Or.inr s2.symm
          · exact Or.inl ⟨s, by omega, s2⟩
      -- the group's count
      have ctS : ∀ l, fb_ct (fun s => decide (lmp T (qS q ((fun i => if i = f then y0 else Im i) s)) = l)) (f + 1) = fb_ct (fun s => decide (lmp T (qS q (Im s)) = l)) f + (if lmp T (qS q y0) = l then 1 else 0) := fun l => by
        rw [fb_ct_succ, fb_ct_cong (q := fun s => decide (lmp T (qS q (Im s)) = l)) (fun k hk => by rw [upd_ne (show k ≠ f by omega)])]
        simp
      have k43 : ∀ i, k1.1 43 i = if i = y0 then nI K else h.1 43 i := fun i => by rw [← hk1, hs_o (by decide), hs_1, if_pos rfl]
      have k44 : ∀ i, k1.1 44 i = if i = f then nI y0 else h.1 44 i := fun i => by rw [← hk1, hs_1, if_pos rfl, hs_o (by decide)]
      -- behind the lamps: group a of g'
      have go : ∀ (k2 : PH) (g' : Nat) (Lg' : Nat → Nat) (a0 : Nat), a0 < g' → (∀ a, a < g' → Lg' a < 256) → (∀ a b, a < b → b < g' → Lg' a ≠ Lg' b) → Lg' a0 = lmp T (qS q y0) → (∀ l, (∃ a, a < g' ∧ Lg' a = l) ↔ (∃ a, a < g ∧ Lg a = l) ∨ l = lmp T (qS q y0)) → (∀ x y, x ≠ 40 → x ≠ 41 → x ≠ 49 + v → k2.1 x y = k1.1 x y) → (∀ i, i < 256 → ∃ w, w ≤ K ∧ k2.1 40 i = nI w) → (∀ l, l < 256 → (k2.1 40 l = nI K ↔ ∃ a, a < g' ∧ Lg' a = l)) → (∀ a, a < g' → k2.1 41 (Lg' a) = nI a) → (∀ a, a < g' → k2.1 (49 + v) a = nI (fb_ct (fun s => decide (lmp T (qS q (Im s)) = Lg' a)) f)) → okI (F_X3_split_b143 N row (F_X3_split_b28 N row fu) (nI (a + n)) (nI j) (nI v) (49 + v) (nI g') (nI (f + 1)) (nI (a + t)) (nI (lmp T (qS q y0))) k2) P := by
        intro k2 g' Lg' a0 p0 p1 p2 p3 p4 p5 p6 p7 p8 p9
        have gl := fb_holes 256 g' Lg' p1 p2
        have p8' := p8 a0 p0
        rw [p3] at p8'
        unfold F_X3_split_b143 F_X3_split_b157
        rw [if_pos (nI_in0 ll (by omega)), nI_clamp (by omega), p8', ib_e, if_pos (nI_in0 (by omega : a0 < 256) (by omega)), nI_clamp (by omega), hb_e, ib_e, nI_1, p9 a0 p0, nI_1]
        refine ih (t + 1) fu _ (f + 1) g' (fun i => if i = f then y0 else Im i) Lg' (by omega) (by omega) ⟨by omega, fun s hs => ⟨?_, lt2 s hs⟩, inj2, im4, p1, p2, fun l => ?_, ?_, fun i hi => ?_, fun y hy => ?_, fun i hi => ?_, fun l hl => ?_, fun b hb' => ?_, fun b hb' => ?_⟩ (fun x y z => ?_) (fun y => ?_)
        · rw [hs_o (by omega), p5 44 s (by decide) (by decide) (by omega), k44]
          by_cases z : s = f
          · rw [if_pos z, z]; simp
          · rw [if_neg z, upd_ne z]; exact (i2 s (by omega)).1
        · rw [p4, i7 l]
          constructor
          · rintro (⟨s, s1, s2⟩ | z)
            · exact ⟨s, by omega, by rw [upd_ne (by omega)]; exact s2⟩
            · exact ⟨f, by omega, by simp [z]⟩
          · rintro ⟨s, s1, s2⟩
            by_cases z : s = f
            · subst z; simp at s2; exact Or.inr s2.symm
            · rw [upd_ne z] at s2; exact Or.inl ⟨s, by omega, s2⟩
        · rw [hs_o (by omega), p5 39 13 (by decide) (by decide) (by omega), c1 39 13 (by decide) (by decide)]; exact i8
        · rw [hs_o (by omega), p5 43 i (by decide) (by decide) (by omega), k43]
          by_cases z : i = y0
          · rw [if_pos z]; exact ⟨K, Nat.le_refl _, rfl⟩
          · rw [if_neg z]; exact i9 i hi
        · rw [hs_o (by omega), p5 43 y (by decide) (by decide) (by omega), k43, im1]
          by_cases z : y = y0
          · rw [if_pos z]; exact ⟨fun _ => Or.inr z, fun _ => rfl⟩
          · rw [if_neg z, i10 y hy]; exact ⟨Or.inl, fun c => c.elim id (fun c => absurd c z)⟩
        · rw [hs_o (by omega)]; exact p6 i hi
        · rw [hs_o (by omega)]; exact p7 l hl
        · rw [hs_o (by omega)]; exact p8 b hb'
        · rw [hs_1, if_pos rfl, ctS]
          by_cases z : b = a0
          · rw [if_pos z, z, p3, if_pos rfl]
          · rw [if_neg z, if_neg (fun c => by
              rw [← p3] at c
              rcases Nat.lt_or_gt_of_ne z with y | y
              · exact p2 b a0 y p0 c.symm
              · exact p2 a0 b y hb' c)]
            exact p9 b hb'
        · rw [hs_o (by omega), p5 x y (by omega) (by omega) (by omega), c1 x y (by omega) (by omega)]; exact ff x y z
        · rw [hs_o (by omega), p5 _ y (by omega) (by omega) (by omega), c1 _ y (by omega) (by omega)]; exact f46 y
      by_cases g2 : ∃ a, a < g ∧ Lg a = lmp T (qS q y0)
      · rw [if_pos ((i12 _ ll).mpr g2)]
        obtain ⟨a0, a1, a2⟩ := g2
        refine go k1 g Lg a0 a1 i5 i6 a2 (fun l => ⟨Or.inl, fun c => c.elim id (fun c => ⟨a0, a1, by rw [a2, c]⟩)⟩) (fun _ _ _ _ _ => rfl) (fun i hi => ?_) (fun l hl => ?_) (fun b hb' => ?_) (fun b hb' => ?_)
        · rw [c1 40 i (by decide) (by decide)]; exact i11 i hi
        · rw [c1 40 l (by decide) (by decide)]; exact i12 l hl
        · rw [c1 41 _ (by decide) (by decide)]; exact i13 b hb'
        · rw [c1 _ b (by omega) (by omega)]; exact i14 b hb'
      · rw [if_neg (fun z => g2 ((i12 _ ll).mp z)), hb_e, hb_e]
        have inj3 : ∀ a b, a < b → b < g + 1 → (fun i => if i = g then lmp T (qS q y0) else Lg i) a ≠ (fun i => if i = g then lmp T (qS q y0) else Lg i) b := fun s w h1 h2 => by
          rw [upd_ne (show s ≠ g by omega)]
          by_cases z : w = g
          · subst z; simp; exact fun e => g2 ⟨s, by omega, e⟩
          · rw [upd_ne z]; exact i6 s w h1 (by omega)
        have lt3 : ∀ a, a < g + 1 → (fun i => if i = g then lmp T (qS q y0) else Lg i) a < 256 := fun s hs => by
          by_cases z : s = g
          · subst z; simp; exact ll
          · rw [upd_ne z]; exact i5 s (by omega)
        have gl := fb_holes 256 (g + 1) _ lt3 inj3
        rw [if_pos (nI_in0 (by omega : g < 256) (by omega)), nI_clamp (show g < 2 ^ 31 by omega), hb_e]
        have lg1 : ∀ l, (∃ a, a < g + 1 ∧ (fun i => if i = g then lmp T (qS q y0) else Lg i) a = l) ↔ (∃ a, a < g ∧ Lg a = l) ∨ l = lmp T (qS q y0) := fun l => by
          constructor
          · rintro ⟨s, s1, s2⟩
            by_cases z : s = g
            · subst z; simp at s2; exact Or.inr s2.symm
            · rw [upd_ne z] at s2; exact Or.inl ⟨s, by omega, s2⟩
          · rintro (⟨s, s1, s2⟩ | z)
            · exact ⟨s, by omega, by rw [upd_ne (by omega)]; exact s2⟩
            · exact ⟨g, by omega, by simp [z]⟩
        refine go _ (g + 1) (fun i => if i = g then lmp T (qS q y0) else Lg i) g (by omega) lt3 inj3 (by simp) lg1 (fun x y z1 z2 z3 => by rw [hs_o z3, hs_o z2, hs_o z1]) (fun i hi => ?_) (fun l hl => ?_) (fun b hb' => ?_) (fun b hb' => ?_)
        · rw [hs_o (by omega), hs_o (by decide), hs_1, if_pos rfl]
          by_cases z : i = lmp T (qS q y0)
          · rw [if_pos z]; exact ⟨K, Nat.le_refl _, rfl⟩
          · rw [if_neg z, c1 40 i (by decide) (by decide)]; exact i11 i hi
        · rw [lg1, hs_o (by omega), hs_o (by decide), hs_1, if_pos rfl]
          by_cases z : l = lmp T (qS q y0)
          · rw [if_pos z]; exact ⟨fun _ => Or.inr z, fun _ => rfl⟩
          · rw [if_neg z, c1 40 l (by decide) (by decide), i12 l hl]; exact ⟨Or.inl, fun c => c.elim id (fun c => absurd c z)⟩
        · rw [hs_o (by omega), hs_1, if_pos rfl]
          by_cases z : b = g
          · subst z; simp
          · rw [if_neg z, if_neg (fun c => g2 ⟨b, by omega, c⟩), hs_o (by decide), c1 41 _ (by decide) (by decide)]; exact i13 b (by omega)
        · rw [hs_1, if_pos rfl]
          by_cases z : b = g
          · rw [if_pos z]
            have : fb_ct (fun s => decide (lmp T (qS q (Im s)) = (fun i => if i = g then lmp T (qS q y0) else Lg i) b)) f = 0 := fb_ct_zero.mpr (fun s hs => by
              rw [z]
              simp
              intro c
              exact g2 ((i7 _).mpr ⟨s, hs, c⟩))
            rw [this]; rfl
          · rw [if_neg z, hs_o (by omega), hs_o (by omega), c1 _ b (by omega) (by omega), i14 b (by omega)]
            congr 1
            exact fb_ct_cong (fun s hs => by rw [if_neg z])
end
