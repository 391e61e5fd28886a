/-! a whole run in the class -/
def TG (o : Nat) (h h' : PH) : Prop := ∀ a b, ((a < o ∨ o + 15 < a) ∧ a ≠ 59 ∧ a ≠ 63) ∨ (a = o ∧ (b = 6 ∨ b = 7 ∨ b = 19)) → h'.1 a b = h.1 a b
def Cm (q : Nat → Nat) (u : Nat → Nat → Nat) (n t : Nat) (x : Int32) : Prop := (x = -1 ∧ ∀ i, i < n → u 0 i < t) ∨ ∃ m, m ≤ 300 ∧ t ≤ m ∧ x = nI m ∧ (∃ i, i < n ∧ u 0 i = m) ∧ ∀ i, i < n → t ≤ u 0 i → m ≤ u 0 i
def wts (u : Nat → Nat → Nat) (S : TSt) (i : Nat) : Int32 := if S 1 i = -1 then 900 else S 1 i - nI (u 0 i)
def Un (q : Nat → Nat) (u : Nat → Nat → Nat) (t : Nat) (S : TSt) : Prop := ∀ i, i < q 5 → t ≤ u 0 i → S 0 i = -1
def Rst (q : Nat → Nat) (S : TSt) (k : Nat) : Prop := (∀ i, i < q 5 → (ins S k i || wtg S k i) = false) ∧ S 8 k = 0 ∧ S 7 k = 0 ∧ fl S k = q 4
section
variable {q : Nat → Nat} {u : Nat → Nat → Nat} {v : (Nat → Int32) → Int32} {way : Int32} {S : TSt} {o t : Nat} {h h' h2 : PH}
theorem TG_0 : TG o h h := fun _ _ _ => rfl
theorem TG_t (a : TG o h h') (b : TG o h' h2) : TG o h h2 := fun x y z => (b x y z).trans (a x y z)
theorem TG_f (a : TF o h h') : TG o h h' := fun x y z => a x y (by omega)
theorem TG_s {k j : Nat} {x : Int32} (a : TG o h h') (e : (o < k ∧ k ≤ o + 15) ∨ (k = o ∧ (j = 8 ∨ j = 17 ∨ j = 18))) (ho : 64 ≤ o) : TG o h (hs h' k j x) := fun c d z => by
  rw [hs_1]
  by_cases e1 : c = k
  · by_cases e2 : d = j
    · omega
    · rw [if_pos e1, if_neg e2]; exact a c d z
  · rw [if_neg e1]; exact a c d z
theorem PqC_g (ho : 64 ≤ o) (P : PqC q u h) (f : TG o h h') : PqC q u h' := PqC_q P (fun a b z => f a b (by omega))
theorem RwC_g (ho : 64 ≤ o) (R : RwC v h) (f : TG o h h') : RwC v h' := RwC_q R (fun a b z => f a b (by omega))
/-- the next coming -/
theorem next_b4 {N T : Nat} (Q : Qok q u) (hT : T ≤ 1000) (P : PqC q u h) : ∀ m i x2 fuel, i + m = q 5 → m < fuel → Cm q u i T x2 → ∃ r, F_X6_nextComing_b4 N fuel (bu T) x2 (nI i) h = some (r, h) ∧ Cm q u (q 5) T r := by
  have q5 : q 5 ≤ 24 := Q.2.2.2.2.2.2.2.2.1
  intro m
  induction m with
  | zero =>
    intro i x2 fuel e1 e2 C
    obtain ⟨fu, rfl⟩ : ∃ g, fuel = g + 1 := ⟨fuel - 1, by omega⟩
    rw [F_X6_nextComing_b4, P.2.2.2.2.2.1, if_pos (nI_le (by omega) (by omega))]
    refine ⟨x2, rfl, ?_⟩
    rw [show q 5 = i by omega]
    exact C
  | succ m ih =>
    intro i x2 fuel e1 e2 C
    obtain ⟨fu, rfl⟩ : ∃ g, fuel = g + 1 := ⟨fuel - 1, by omega⟩
    have ui := Q.2.2.2.2.2.2.2.2.2.2.2.1 i (by omega)
    have le : nI (u 0 i) ≤ bu T ↔ u 0 i < T := by
      cases T with
      | zero =>
        constructor
        · intro z; exact absurd (Int32.le_trans (nI_pos' (n := u 0 i) (by omega)) z) (by decide)
        · intro z; omega
      | succ T => rw [show bu (T + 1) = nI T from rfl, nI_leI (by omega) (by omega)]; omega
    rw [F_X6_nextComing_b4, P.2.2.2.2.2.1, if_neg (nI_ge (by omega) (by omega)), if_pos (nI_in0 (by omega : i < 24) (by omega)), nI_clamp (by omega), (P.2.2.2.2.2.2.2.2.1 i (by omega)).1]
    unfold F_X6_nextComing_b44 F_X6_nextComing_b37 F_X6_nextComing_b44
    rw [if_pos (nI_in0 (by omega : i < 24) (by omega)), nI_clamp (by omega), (P.2.2.2.2.2.2.2.2.1 i (by omega)).1]
    simp only [ib_e, nI_1]
    by_cases g : u 0 i < T
    · rw [if_pos (le.mpr g)]
      refine ih (i + 1) x2 fu (by omega) (by omega) ?_
      rcases C with ⟨c1, c2⟩ | ⟨k, c1, c2, c3, ⟨j, c4, c5⟩, c6⟩
      · exact Or.inl ⟨c1, fun j hj => by
          by_cases e : j = i
          · rw [e]; exact g
          · exact c2 j (by omega)⟩
      · exact Or.inr ⟨k, c1, c2, c3, ⟨j, by omega, c5⟩, fun l hl z => by
          by_cases e : l = i
          · rw [e] at z; omega
          · exact c6 l (by omega) z⟩
    · rw [if_neg (fun z => g (le.mp z))]
      have take : Cm q u (i + 1) T (nI (u 0 i)) → ∃ r, F_X6_nextComing_b4 N fu (bu T) (nI (u 0 i)) (nI (i + 1)) h = some (r, h) ∧ Cm q u (q 5) T r := fun z => ih (i + 1) _ fu (by omega) (by omega) z
      rcases C with ⟨c1, c2⟩ | ⟨k, c1, c2, c3, ⟨j, c4, c5⟩, c6⟩
      · rw [if_pos c1]
        exact take (Or.inr ⟨u 0 i, by omega, by omega, rfl, ⟨i, by omega, rfl⟩, fun l hl z => by
          by_cases e : l = i
          · rw [e]; exact Nat.le_refl _
          · have := c2 l (by omega); omega⟩)
      · rw [c3, if_neg (n_eq_m1 (by omega)), if_pos (nI_in0 (by omega : i < 24) (by omega))]
        by_cases g2 : k ≤ u 0 i
        · rw [if_pos (nI_le g2 (by omega))]
          exact ih (i + 1) _ fu (by omega) (by omega) (Or.inr ⟨k, c1, c2, rfl, ⟨j, by omega, c5⟩, fun l hl z => by
            by_cases e : l = i
            · rw [e]; exact g2
            · exact c6 l (by omega) z⟩)
        · rw [if_neg (nI_ge (by omega) (by omega))]
          exact take (Or.inr ⟨u 0 i, by omega, by omega, rfl, ⟨i, by omega, rfl⟩, fun l hl z => by
            by_cases e : l = i
            · rw [e]; exact Nat.le_refl _
            · have := c6 l (by omega) z; omega⟩)
theorem ncom_x {N T : Nat} (hN : 100 ≤ N) (Q : Qok q u) (hT : T ≤ 1000) (P : PqC q u h) : ∃ r, F_X6_nextComing N (bu T) h = some (r, h) ∧ Cm q u (q 5) T r := by
  have q5 : q 5 ≤ 24 := Q.2.2.2.2.2.2.2.2.1
  exact next_b4 Q hT P (q 5) 0 (-1) N (by omega) (by omega) (Or.inl ⟨rfl, fun i hi => by omega⟩)
/-- all at home, all at rest -/
theorem home_b2 {N : Nat} (Q : Qok q u) (K : Sok q S) (T : TrC q u o S h) : ∀ m i fuel, i + m = q 1 → m < fuel → F_X10_allHome_b2 N o fuel (nI i) h = some (if exn m (fun k => !(decide (lod (q 5) S (i + k) = 0) && decide (fl S (i + k) = 0))) = true then 0 else 1, h) := by
  have q12 : q 1 ≤ 2 := Q.2.2.2.1
  have q5 : q 5 ≤ 24 := Q.2.2.2.2.2.2.2.2.1
  have q06 : q 0 ≤ 6 := Q.2.1
  intro m
  induction m with
  | zero =>
    intro i fuel e1 e2
    obtain ⟨fu, rfl⟩ : ∃ g, fuel = g + 1 := ⟨fuel - 1, by omega⟩
    rw [F_X10_allHome_b2, T.1, if_pos (nI_le (by omega) (by omega))]
    rfl
  | succ m ih =>
    intro i fuel e1 e2
    obtain ⟨fu, rfl⟩ : ∃ g, fuel = g + 1 := ⟨fuel - 1, by omega⟩
    have fy := (K.1 i (by omega)).1
    have z0 : h.1 (o + 12) i = 0 ↔ lod (q 5) S i = 0 := by
      rw [Mk_0i (by omega) (T.2.2.2.1 i (by omega)).1]
      exact fb_ct_zero.symm
    rw [F_X10_allHome_b2, T.1, if_neg (nI_ge (by omega) (by omega)), if_pos (nI_in0 (by omega : i < 2) (by omega)), nI_clamp (by omega), if_pos (nI_in0 (by omega : i < 2) (by omega)), r_f T K (by omega), ib_e, nI_1, ih (i + 1) fu (by omega) (by omega)]
    have sp : exn (m + 1) (fun k => !(decide (lod (q 5) S (i + k) = 0) && decide (fl S (i + k) = 0))) = (!(decide (lod (q 5) S i = 0) && decide (fl S i = 0)) || exn m (fun k => !(decide (lod (q 5) S (i + 1 + k) = 0) && decide (fl S (i + 1 + k) = 0)))) := by
      apply Bool.eq_iff_iff.mpr
      rw [Bool.or_eq_true, exn_t, exn_t]
      constructor
      · rintro ⟨k, hk, z⟩
        cases k with
        | zero => exact Or.inl z
        | succ k => exact Or.inr ⟨k, by omega, by rw [show i + 1 + k = i + (k + 1) by omega]; exact z⟩
      · rintro (z | ⟨k, hk, z⟩)
        · exact ⟨0, by omega, z⟩
        · exact ⟨k + 1, by omega, by rw [show i + (k + 1) = i + 1 + k by omega]; exact z⟩
    rw [sp]
    by_cases g1 : lod (q 5) S i = 0
    · rw [if_pos (z0.mpr g1)]
      by_cases g2 : fl S i = 0
      · rw [if_pos (by rw [g2]; rfl)]; simp [g1, g2]
      · rw [if_neg (fun z => g2 ((n_eq_l 0 (by omega) (by omega)).mp z))]; simp [g2]
    · rw [if_neg (fun z => g1 (z0.mp z))]; simp [g1]
theorem home_x {N : Nat} (hN : 100 ≤ N) (Q : Qok q u) (K : Sok q S) (T : TrC q u o S h) : F_X10_allHome N o h = some (if exn (q 1) (fun k => !(decide (lod (q 5) S k = 0) && decide (fl S k = 0))) = true then 0 else 1, h) := by
  have q12 : q 1 ≤ 2 := Q.2.2.2.1
  have := home_b2 (N := N) Q K T (q 1) 0 N (by omega) (by omega)
  simp only [Nat.zero_add] at this
  exact this
theorem or_0 {x y : Int32} : x ||| y = 0 → x = 0 ∧ y = 0 := fun e => by
  have k : ∀ i, bt x i = false ∧ bt y i = false := fun i => by
    have := b_or x y i
    rw [e, b_0] at this
    cases hx : bt x i <;> cases hy : bt y i <;> simp [hx, hy] at this ⊢
  exact ⟨b_ext (fun i _ => by rw [b_0, (k i).1]), b_ext (fun i _ => by rw [b_0, (k i).2])⟩
theorem rest_b2 {N : Nat} (Q : Qok q u) (K : Sok q S) (P : PqC q u h) (T : TrC q u o S h) : ∀ m i fuel, i + m = q 1 → m < fuel → (∀ k, k < i → Rst q S k) → ∃ r, F_X10_allRest_b2 N o fuel (nI i) h = some (r, h) ∧ (r = 0 ∨ (r = 1 ∧ ∀ k, k < q 1 → Rst q S k)) := by
  have q12 : q 1 ≤ 2 := Q.2.2.2.1
  have q5 : q 5 ≤ 24 := Q.2.2.2.2.2.2.2.2.1
  have q06 : q 0 ≤ 6 := Q.2.1
  have q4 : q 4 < q 0 := Q.2.2.2.2.2.2.2.1
  intro m
  induction m with
  | zero =>
    intro i fuel e1 e2 A
    obtain ⟨fu, rfl⟩ : ∃ g, fuel = g + 1 := ⟨fuel - 1, by omega⟩
    rw [F_X10_allRest_b2, T.1, if_pos (nI_le (by omega) (by omega))]
    exact ⟨1, rfl, Or.inr ⟨rfl, fun k hk => A k (by omega)⟩⟩
  | succ m ih =>
    intro i fuel e1 e2 A
    obtain ⟨fu, rfl⟩ : ∃ g, fuel = g + 1 := ⟨fuel - 1, by omega⟩
    have fy := (K.1 i (by omega)).1
    rw [F_X10_allRest_b2, T.1, if_neg (nI_ge (by omega) (by omega)), if_pos (nI_in0 (by omega : i < 2) (by omega)), nI_clamp (by omega)]
    unfold F_X10_allRest_b45
    rw [if_pos rfl, if_neg one10, if_pos (nI_in0 (by omega : i < 2) (by omega)), nI_clamp (by omega), r_f T K (by omega), P.2.2.2.2.1, ib_e, nI_1]
    by_cases g : ((((h.1 (o + 12) i) ||| (h.1 (o + 13) i)) ||| (h.1 (o + 11) i)) ||| (h.1 (o + 10) i)) = 0
    · rw [if_pos g]
      by_cases g2 : fl S i = q 4
      · rw [if_pos (by rw [g2])]
        obtain ⟨g3, g4⟩ := or_0 g
        obtain ⟨g5, g6⟩ := or_0 g3
        refine ih (i + 1) fu (by omega) (by omega) (fun k hk => ?_)
        by_cases e : k = i
        · subst e
          refine ⟨?_, by rw [← r_8 T]; exact g6, by rw [← r_7 T]; exact g4, g2⟩
          exact (Mk_0i (by omega) (Mk_or (T.2.2.2.1 k (by omega)).1 (T.2.2.2.1 k (by omega)).2)).mp g5
        · exact A k (by omega)
      · rw [if_neg (fun z => g2 ((nI_eq (by omega) (by omega)).mp z))]
        exact ⟨0, rfl, Or.inl rfl⟩
    · rw [if_neg g]
      exact ⟨0, rfl, Or.inl rfl⟩
/-- while all rest nothing changes -/
theorem rst_act (Q : Qok q u) (K : Sok q S) {k t : Nat} (hk : k < q 1) (R : Rst q S k) (nb' : brn (q 7) t = false) : sAct q u t k S = S := by
  have q12 : q 1 ≤ 2 := Q.2.2.2.1
  obtain ⟨r1, r2, r3, r4⟩ := R
  have m0 : mst q u S k = false := by
    unfold mst
    rw [exn_f.mpr (fun i hi => by have := r1 i hi; simp at this; rw [this.1]; rfl), exn_f.mpr (fun i hi => by have := r1 i hi; simp at this; rw [this.2]; rfl)]
    rfl
  have g0 : mkN (gol q u S k) (q 0) = 0 := (gol_0 Q).mpr r1
  unfold sAct
  rw [r2, if_pos (by decide), nb', if_neg (by decide), m0, if_neg (by decide)]
  unfold sGo
  rw [if_pos g0]
  have e : su S 7 k 0 = S := by
    rw [← r3]
    exact su_id
  rw [e]
  unfold sPark
  rw [if_pos r4]
theorem rst_step (Q : Qok q u) (K : Sok q S) {t : Nat} (R : ∀ k, k < q 1 → Rst q S k) (nb' : brn (q 7) t = false) (nc : ∀ i, i < q 5 → u 0 i ≠ t) : sStep q u v way t S = S := by
  have q12 : q 1 ≤ 2 := Q.2.2.2.1
  have g : ∀ k, k ≤ q 5 → sGiv q u v way t k S = S := by
    intro k
    induction k with
    | zero => intro _; rfl
    | succ k ih =>
      intro hk
      rw [sGiv, if_neg (nc k (by omega)), ih (by omega)]
  have hh : ∀ k, k ≤ q 6 → sHold u t k S = S := by
    intro k
    induction k with
    | zero => intro _; rfl
    | succ k ih =>
      intro hk
      have uh := Q.2.2.2.2.2.2.2.2.2.2.2.2 k (by omega)
      have s8 : S 8 (u 4 k) = 0 := by
        by_cases z : u 4 k < q 1
        · exact (R _ z).2.1
        · exact (K.1 (u 4 k) uh.2.1).2.2.2.2 (by omega)
      rw [sHold, ih (by omega), if_neg (fun z => by rw [s8] at z; exact absurd z.2 (by decide))]
  have aa : ∀ k, k ≤ q 1 → sActs q u t k S = S := by
    intro k
    induction k with
    | zero => intro _; rfl
    | succ k ih =>
      intro hk
      rw [sActs, ih (by omega), rst_act Q K (by omega) (R k (by omega)) nb']
  unfold sStep sGive
  rw [nb', if_neg (by decide), g _ (Nat.le_refl _), hh _ (Nat.le_refl _), aa _ (Nat.le_refl _)]
theorem brn_mono {f t t' : Nat} (h : t ≤ t') (b : brn f t = true) : brn f t' = true := by
  have := of_decide_eq_true b
  exact decide_eq_true (by omega)
theorem skip_x (Q : Qok q u) (K : Sok q S) {w : Nat} (R : ∀ k, k < q 1 → Rst q S k) (no : exn (q 5) (fun i => decide (S 2 i < 0)) = true) (nb' : ∀ s, s < w → brn (q 7) s = false) : ∀ d t, t + d = w → w ≤ 900 → (∀ i, i < q 5 → t ≤ u 0 i → w ≤ u 0 i) → sRun q u v way (900 - t) t S = sRun q u v way (900 - w) w S := by
  intro d
  induction d with
  | zero => intro t e _ _; rw [show t = w by omega]
  | succ d ih =>
    intro t e hw nc
    rw [show 900 - t = (900 - (t + 1)) + 1 by omega, sRun, rst_step Q K R (nb' t (by omega)) (fun i hi z => by have := nc i hi (by omega); omega)]
    have ov : sOvr q t S = false := by
      unfold sOvr
      rw [no, nb' t (by omega)]
      rfl
    rw [ov, if_neg (by decide)]
    exact ih (t + 1) (by omega) hw (fun i hi z => nc i hi (by omega))
theorem note_b2 {N : Nat} (ho : 64 ≤ o) (Q : Qok q u) {h0 : PH} (T : TrC q u o S h0) (P : PqC q u h0) : ∀ m i fuel h, i + m = q 5 → m < fuel → (∀ a b, a ≠ o + 4 → h.1 a b = h0.1 a b) → (∀ j, j < i → h.1 (o + 4) j = wts u S j) → okV (F_X10_noteWaits_b2 N o fuel (nI i) h) (fun h' => (∀ a b, a ≠ o + 4 → h'.1 a b = h0.1 a b) ∧ ∀ j, j < q 5 → h'.1 (o + 4) j = wts u S j) := by
  have q5 : q 5 ≤ 24 := Q.2.2.2.2.2.2.2.2.1
  intro m
  induction m with
  | zero =>
    intro i fuel h e1 e2 f0 w0
    obtain ⟨fu, rfl⟩ : ∃ g, fuel = g + 1 := ⟨fuel - 1, by omega⟩
    rw [F_X10_noteWaits_b2, f0 o 7 (by omega), T.2.1, if_pos (nI_le (by omega) (by omega))]
    exact okV_s ⟨f0, fun j hj => w0 j (by omega)⟩
  | succ m ih =>
    intro i fuel h e1 e2 f0 w0
    obtain ⟨fu, rfl⟩ : ∃ g, fuel = g + 1 := ⟨fuel - 1, by omega⟩
    have key : ∀ x, x = wts u S i → okV (F_X10_noteWaits_b2 N o fu (nI (i + 1)) (hs h (o + 4) i x)) (fun h' => (∀ a b, a ≠ o + 4 → h'.1 a b = h0.1 a b) ∧ ∀ j, j < q 5 → h'.1 (o + 4) j = wts u S j) := fun x hx => ih (i + 1) fu _ (by omega) (by omega) (fun a b z => by rw [hs_o z]; exact f0 a b z) (fun j hj => by
      rw [hs_1, if_pos rfl]
      by_cases e : j = i
      · rw [if_pos e, hx, e]
      · rw [if_neg e]; exact w0 j (by omega))
    rw [F_X10_noteWaits_b2, f0 o 7 (by omega), T.2.1, if_neg (nI_ge (by omega) (by omega)), if_pos (nI_in0 (by omega : i < 24) (by omega)), nI_clamp (by omega), f0 (o + 2) i (by omega), r_1 T, f0 52 i (by omega), (P.2.2.2.2.2.2.2.2.1 i (by omega)).1, if_pos (nI_in0 (by omega : i < 24) (by omega))]
    unfold F_X10_noteWaits_b47
    rw [if_pos (nI_in0 (by omega : i < 24) (by omega)), nI_clamp (by omega)]
    simp only [hb_e, ib_e, nI_1]
    by_cases g : S 1 i = -1
    · rw [if_pos g]; exact key _ (by unfold wts; rw [if_pos g])
    · rw [if_neg g, if_pos (nI_in0 (by omega : i < 24) (by omega))]; exact key _ (by unfold wts; rw [if_neg g])
/-- what a run leaves -/
def TrE (q : Nat → Nat) (u : Nat → Nat → Nat) (o : Nat) (x : TSt × Int32) (h : PH) : Prop := TrC q u o x.1 h ∧ h.1 o 8 = x.2 ∧ ∀ j, j < q 5 → h.1 (o + 4) j = wts u x.1 j
theorem b153_x {N : Nat} (hN : 100 ≤ N) (ho : 64 ≤ o) (Q : Qok q u) (T : TrC q u o S h) (P : PqC q u h) {e : Int32} (he : h.1 o 8 = e) : okV (F_X10_simulate_b153 N o h) (fun h' => TrE q u o (S, e) h' ∧ TG o h h') := by
  have q5 : q 5 ≤ 24 := Q.2.2.2.2.2.2.2.2.1
  unfold F_X10_simulate_b153
  obtain ⟨h', e1, e2, e3⟩ := note_b2 (N := N) ho Q T P (q 5) 0 N h (by omega) (by omega) (fun _ _ _ => rfl) (fun j hj => by omega)
  unfold F_X10_noteWaits
  rw [show (0 : Int32) = nI 0 from rfl, e1, bV_s]
  exact okV_s ⟨⟨TrC_q T (fun a b z => e2 a b (by omega)), by rw [e2 o 8 (by omega)]; exact he, e3⟩, fun a b z => e2 a b (by omega)⟩
theorem cars_b65 {N : Nat} (hN : 100 ≤ N) (ho : 64 ≤ o) (ht : t < 900) (Q : Qok q u) (K : Sok q S) {rc : Int32 → Int32 → PH → Option PH} {G : PH → Prop} {h0 : PH} (fin : ∀ h, TrC q u o (sActs q u t (q 1) S) h → TF o h0 h → okV (F_X10_simulate_b85 N o rc way (nI t) h) G) (P0 : PqC q u h0) : ∀ m i fuel h, i + m = q 1 → m < fuel → TrC q u o (sActs q u t i S) h → TF o h0 h → okV (F_X10_simulate_b65 N o rc fuel way (nI t) (nI i) h) G := by
  have q12 : q 1 ≤ 2 := Q.2.2.2.1
  intro m
  induction m with
  | zero =>
    intro i fuel h e1 e2 T f
    obtain ⟨fu, rfl⟩ : ∃ g, fuel = g + 1 := ⟨fuel - 1, by omega⟩
    rw [F_X10_simulate_b65, T.1, if_pos (nI_le (by omega) (by omega))]
    refine fin h ?_ f
    rw [show q 1 = i by omega]
    exact T
  | succ m ih =>
    intro i fuel h e1 e2 T f
    obtain ⟨fu, rfl⟩ : ∃ g, fuel = g + 1 := ⟨fuel - 1, by omega⟩
    rw [F_X10_simulate_b65, T.1, if_neg (nI_ge (by omega) (by omega))]
    obtain ⟨k, k1, k2, k3⟩ := actC_x (c := i) hN ho ht (by omega) Q (acts_ok Q K ht i (by omega)) (PqC_t ho P0 f) T
    rw [k1, bV_s, ib_e, nI_1]
    exact ih (i + 1) fu k (by omega) (by omega) k2 (TF_t f k3)
theorem step_un (U : Un q u t S) : Un q u (t + 1) (sStep q u v way t S) := fun i hi z => by
  unfold sStep sGive
  rw [acts_0, hold_o (by decide)]
  split
  · exact U i hi (by omega)
  · have : ∀ k, k ≤ q 5 → sGiv q u v way t k S 0 i = S 0 i := by
      intro k
      induction k with
      | zero => intro _; rfl
      | succ k ih =>
        intro hk
        rw [sGiv]
        by_cases g : u 0 k = t
        · rw [if_pos g, su_e, if_pos rfl, if_neg (by intro e; subst e; omega), ih (by omega)]
        · rw [if_neg g, ih (by omega)]
    rw [this _ (Nat.le_refl _)]
    exact U i hi (by omega)
theorem give_ok (K : Sok q S) (U : Un q u t S) : Sok q (sGive q u v way t S) := by
  unfold sGive
  split
  · exact K
  · exact giv_ok K (fun k hk z => U k hk (by omega)) (q 5) (Nat.le_refl _)
theorem step_ok (Q : Qok q u) (K : Sok q S) (ht : t < 900) (U : Un q u t S) : Sok q (sStep q u v way t S) := acts_ok Q (hold_ok Q (give_ok K U) (q 6) (Nat.le_refl _)) ht (q 1) (Nat.le_refl _)
theorem sim_b6 {N : Nat} (hN : 2000 ≤ N) (ho : 64 ≤ o) (Q : Qok q u) : ∀ m k t fuel h S, k ≤ m → t + k = 900 → k < fuel → TrC q u o S h → PqC q u h → RwC v h → Sok q S → Un q u t S → (brn (q 7) t = true ∨ Cm q u (q 5) t (h.1 o 17)) → h.1 o 8 = -1 → okV (F_X10_simulate_b6 N o fuel way (nI t) h) (fun h' => TrE q u o (sRun q u v way k t S) h' ∧ TG o h h') := by
  have q12 : q 1 ≤ 2 := Q.2.2.2.1
  have q5 : q 5 ≤ 24 := Q.2.2.2.2.2.2.2.2.1
  have q7 : q 7 ≤ 900 := Q.2.2.2.2.2.2.2.2.2.2.1
  have q6 : q 6 ≤ 8 := Q.2.2.2.2.2.2.2.2.2.1
  intro m
  induction m with
  | zero =>
    intro k t fuel h S km e1 e2 T P R K U C E
    obtain ⟨fu, rfl⟩ : ∃ g, fuel = g + 1 := ⟨fuel - 1, by omega⟩
    rw [F_X10_simulate_b6, show t = 900 by omega, if_pos (by decide), show k = 0 by omega]
    exact b153_x (by omega) ho Q T P E
  | succ m ih =>
    intro k t fuel h S km e1 e2 T P R K U C E
    obtain ⟨fu, rfl⟩ : ∃ g, fuel = g + 1 := ⟨fuel - 1, by omega⟩
    by_cases k0 : k = 0
    · rw [F_X10_simulate_b6, show t = 900 by omega, if_pos (by decide), k0]
      exact b153_x (by omega) ho Q T P E
    obtain ⟨k, rfl⟩ : ∃ j, k = j + 1 := ⟨k - 1, by omega⟩
    have ht : t < 900 := by omega
    rw [F_X10_simulate_b6, if_neg (fun z => by have := (l_le_n 900 (by omega) (by omega)).mp z; omega), if_pos E, burns_x q7 (by omega) P.2.2.2.2.2.2.2.1, bI_s]
    -- behind the giving
    have rest : ∀ k1 : PH, TrC q u o (sGive q u v way t S) k1 → TG o h k1 → k1.1 o 8 = -1 → (brn (q 7) t = true ∨ Cm q u (q 5) (t + 1) (k1.1 o 17)) → okV (F_X10_simulate_b58 N o (F_X10_simulate_b6 N o fu) way (nI t) k1) (fun h' => TrE q u o (sRun q u v way (k + 1) t S) h' ∧ TG o h h') := by
      intro k1 T1 f1 E1 C1
      have P1 := PqC_g ho P f1
      have R1 := RwC_g ho R f1
      have K1 := give_ok (v := v) (way := way) K U
      obtain ⟨k2, x2, T2, f2⟩ := holdC_x (N := N) (by omega) ho ht Q T1 P1
      unfold F_X10_simulate_b58
      rw [x2, bV_s]
      have K2 := hold_ok (t := t) Q K1 (q 6) (Nat.le_refl _)
      refine cars_b65 (h0 := k2) (S := sHold u t (q 6) (sGive q u v way t S)) (by omega) ho ht Q K2 ?_ (PqC_t ho P1 f2) (q 1) 0 N k2 (by omega) (by omega) T2 TF_0
      intro k3 T3 f3
      have K3 := acts_ok (t := t) Q K2 ht (q 1) (Nat.le_refl _)
      have T3' : TrC q u o (sStep q u v way t S) k3 := T3
      have K3' : Sok q (sStep q u v way t S) := K3
      have U3 : Un q u (t + 1) (sStep q u v way t S) := step_un U
      have f13 : TF o k1 k3 := TF_t f2 f3
      have g13 : TG o h k3 := TG_t f1 (TG_f f13)
      have P3 := PqC_g ho P g13
      have R3 := RwC_g ho R g13
      have E3 : k3.1 o 8 = -1 := by rw [f13 o 8 (by omega)]; exact E1
      have C3 : brn (q 7) t = true ∨ Cm q u (q 5) (t + 1) (k3.1 o 17) := by rw [f13 o 17 (by omega)]; exact C1
      generalize hS : sStep q u v way t S = S3 at T3' K3' U3
      have z18 : k3.1 o 18 = 0 ↔ exn (q 5) (fun i => decide (S3 2 i < 0)) = false := by rw [Mk_0i (by omega) T3'.2.2.2.2.2, exn_f]
      -- it is over
      have over : sOvr q t S3 = true → okV (F_X10_simulate_b110 N o (F_X10_simulate_b6 N o fu) way (nI t) k3) (fun h' => TrE q u o (sRun q u v way (k + 1) t S) h' ∧ TG o h h') := by
        intro ov
        unfold F_X10_simulate_b110 F_X10_simulate_b147
        rw [hb_e, ib_e, nI_1, sRun, hS, if_pos ov]
        obtain ⟨fv, rfl⟩ : ∃ g, fu = g + 1 := ⟨fu - 1, by omega⟩
        have T4 : TrC q u o S3 (hs k3 o 8 (nI t)) := TrC_q T3' (fun a b z => by rw [hs_1]; by_cases y : a = o <;> simp [y] <;> omega)
        have f4 : TG o h (hs k3 o 8 (nI t)) := TG_s g13 (by omega) ho
        obtain ⟨h', x1, x2, x3⟩ := b153_x (N := N) (e := nI t) (by omega) ho Q T4 (PqC_g ho P f4) (by simp [hs_1])
        rw [F_X10_simulate_b6]
        by_cases g9 : 900 ≤ t + 1
        · rw [if_pos (by rw [show t + 1 = 900 by omega]; decide), x1]
          exact okV_s ⟨x2, TG_t f4 x3⟩
        · rw [if_neg (fun z => by have := (l_le_n 900 (by omega) (by omega)).mp z; omega), if_neg (by simp [hs_1]; exact n_eq_m1 (by omega)), x1]
          exact okV_s ⟨x2, TG_t f4 x3⟩
      -- it goes on
      have on : sOvr q t S3 = false → k3.1 o 18 ≠ 0 → okV (F_X10_simulate_b118 N o (F_X10_simulate_b6 N o fu) way (nI t) k3) (fun h' => TrE q u o (sRun q u v way (k + 1) t S) h' ∧ TG o h h') := by
        intro ov n18
        have nx : ∀ w, t < w → w ≤ 900 → sRun q u v way (900 - (t + 1)) (t + 1) S3 = sRun q u v way (900 - w) w S3 → (brn (q 7) w = true ∨ Cm q u (q 5) w (k3.1 o 17)) → Un q u w S3 → okV (F_X10_simulate_b6 N o fu way (nI w) k3) (fun h' => TrE q u o (sRun q u v way (k + 1) t S) h' ∧ TG o h h') := by
          intro w w1 w2 w3 w4 w5
          have := ih (900 - w) w fu k3 S3 (by omega) (by omega) (by omega) T3' P3 R3 K3' w5 w4 E3
          rw [sRun, hS, ov, if_neg (by decide), show k = 900 - (t + 1) by omega, w3]
          exact okV_m this (fun h' z => ⟨z.1, TG_t g13 z.2⟩)
        have one : okV (F_X10_simulate_b6 N o fu way (nI (t + 1)) k3) (fun h' => TrE q u o (sRun q u v way (k + 1) t S) h' ∧ TG o h h') := nx (t + 1) (by omega) (by omega) rfl (by
          rcases C3 with y | y
          · exact Or.inl (brn_mono (by omega) y)
          · exact Or.inr y) U3
        unfold F_X10_simulate_b118 F_X10_simulate_b147
        rw [burns_x q7 (by omega) P3.2.2.2.2.2.2.2.1, bI_s]
        simp only [ib_e, nI_1]
        by_cases gb : brn (q 7) t = true
        · rw [if_pos gb, if_neg one10]
          exact one
        · rw [if_neg gb, if_pos rfl]
          obtain ⟨r, y1, y2⟩ := rest_b2 (N := N) Q K3' P3 T3' (q 1) 0 N (by omega) (by omega) (fun k hk => by omega)
          unfold F_X10_allRest
          rw [show (0 : Int32) = nI 0 from rfl, y1, bI_s]
          rcases y2 with rfl | ⟨rfl, rr⟩
          · rw [if_pos (by decide)]; exact one
          · rw [if_neg (by decide)]
            have C4 : Cm q u (q 5) (t + 1) (k3.1 o 17) := by
              rcases C3 with y | y
              · exact absurd y gb
              · exact y
            have gb' : ¬ (0 < q 7 ∧ q 7 ≤ t + 1) := fun z => gb (decide_eq_true z)
            -- the next change
            have nc : ∃ w, t < w ∧ w ≤ 900 ∧ F_X10_nextChange o k3 = some (nI w, k3) ∧ (∀ s, s < w → brn (q 7) s = false) ∧ (∀ i, i < q 5 → t + 1 ≤ u 0 i → w ≤ u 0 i) := by
              have p14 : k3.1 51 14 = bu (q 7) := P3.2.2.2.2.2.2.2.1
              have cut : ∀ c, t < c → c ≤ 900 → (∀ i, i < q 5 → t + 1 ≤ u 0 i → c ≤ u 0 i) → ∃ w, t < w ∧ w ≤ 900 ∧ F_X10_nextChange_b18 o (nI c) k3 = some (nI w, k3) ∧ (∀ s, s < w → brn (q 7) s = false) ∧ (∀ i, i < q 5 → t + 1 ≤ u 0 i → w ≤ u 0 i) := by
                intro c c1 c2 c3
                unfold F_X10_nextChange_b18
                rw [p14]
                cases hf : q 7 with
                | zero => exact ⟨c, c1, c2, by rw [if_pos (by decide)], fun s _ => by unfold brn; simp, c3⟩
                | succ f =>
                  rw [hf] at gb'
                  rw [show bu (f + 1) = nI f from rfl, if_neg (n_eq_m1 (by omega))]
                  unfold imin
                  by_cases gc : f < c
                  · rw [if_pos (nI_lt gc (by omega))]
                    exact ⟨f, by omega, by omega, rfl, fun s hs => by unfold brn; simp; omega, fun i hi z => by have := c3 i hi z; omega⟩
                  · rw [if_neg (nI_nlt (by omega) (by omega))]
                    exact ⟨c, c1, c2, rfl, fun s hs => by unfold brn; simp; omega, c3⟩
              unfold F_X10_nextChange
              rcases C4 with ⟨a1, a2⟩ | ⟨mm, a1, a2, a3, -, a5⟩
              · rw [if_pos a1]
                exact cut 900 (by omega) (by omega) (fun i hi z => by have := a2 i hi; omega)
              · rw [a3, if_neg (n_eq_m1 (by omega))]
                exact cut mm (by omega) (by omega) a5
            obtain ⟨w, w1, w2, w3, w4, w5⟩ := nc
            rw [w3, bI_s]
            have mx : imax (nI t) (nI w - 1) + 1 = nI w := by
              unfold imax
              rw [nI_m1 (by omega)]
              by_cases gt : t < w - 1
              · rw [if_pos (nI_lt gt (by omega)), nI_1]; congr 1; omega
              · rw [if_neg (nI_nlt (by omega) (by omega)), nI_1]; congr 1; omega
            rw [mx]
            have no : exn (q 5) (fun i => decide (S3 2 i < 0)) = true := by
              cases y : exn (q 5) (fun i => decide (S3 2 i < 0))
              · exact absurd (z18.mpr y) n18
              · rfl
            refine nx w w1 w2 (skip_x Q K3' rr no w4 (w - (t + 1)) (t + 1) (by omega) w2 w5) (Or.inr ?_) (fun i hi z => U3 i hi (by omega))
            rcases C4 with ⟨a1, a2⟩ | ⟨mm, a1, a2, a3, ⟨j, a4, a4'⟩, a5⟩
            · exact Or.inl ⟨a1, fun i hi => by have := a2 i hi; omega⟩
            · exact Or.inr ⟨mm, a1, by have := w5 j a4 (by omega); omega, a3, ⟨j, a4, a4'⟩, fun i hi z => a5 i hi (by omega)⟩
      unfold F_X10_simulate_b85
      by_cases g18 : k3.1 o 18 = 0
      · rw [if_pos g18]
        refine over ?_
        unfold sOvr
        rw [z18.mp g18]
        rfl
      · have no : exn (q 5) (fun i => decide (S3 2 i < 0)) = true := by
          cases y : exn (q 5) (fun i => decide (S3 2 i < 0))
          · exact absurd (z18.mpr y) g18
          · rfl
        rw [if_neg g18, burns_x q7 (by omega) P3.2.2.2.2.2.2.2.1, bI_s]
        by_cases gb : brn (q 7) t = true
        · rw [if_pos gb, if_neg one10, home_x (by omega) Q K3' T3', bI_s]
          cases y : exn (q 1) (fun k => !(decide (lod (q 5) S3 k = 0) && decide (fl S3 k = 0)))
          · rw [if_neg (by decide)]
            exact over (by unfold sOvr; rw [no, gb, y]; rfl)
          · rw [if_pos rfl, if_pos rfl]
            exact on (by unfold sOvr; rw [no, gb, y]; rfl) g18
        · rw [if_neg gb, if_pos rfl]
          exact on (by unfold sOvr; rw [no, show brn (q 7) t = false by simpa using gb]; rfl) g18
    by_cases gb : brn (q 7) t = true
    · rw [if_pos gb, if_neg one10]
      exact rest h (by unfold sGive; rw [if_pos gb]; exact T) TG_0 E (Or.inl gb)
    · rw [if_neg gb, if_pos rfl]
      have C4 : Cm q u (q 5) t (h.1 o 17) := by
        rcases C with y | y
        · exact absurd y gb
        · exact y
      by_cases gc : nI t = h.1 o 17
      · rw [if_pos gc]
        obtain ⟨k1, x1, T1, f1⟩ := give_x (v := v) (way := way) hN ho ht Q K (fun k hk z => U k hk (by omega)) T P R
        rw [x1, bV_s]
        have P1 := PqC_t ho P f1
        obtain ⟨r, x2, C2⟩ := ncom_x (N := N) (T := t + 1) (by omega) Q (by omega) P1
        rw [show nI t = bu (t + 1) from rfl, x2, bI_s, hb_e]
        refine rest (hs k1 o 17 r) ?_ (TG_s (TG_f f1) (by omega) ho) (by rw [hs_1, if_pos rfl, if_neg (by decide), f1 o 8 (by omega)]; exact E) (Or.inr (by rw [hs_1, if_pos rfl, if_pos rfl]; exact C2))
        unfold sGive
        rw [if_neg gb]
        exact TrC_q T1 (fun a b z => by rw [hs_1]; by_cases y : a = o <;> simp [y] <;> omega)
      · rw [if_neg gc]
        have nn : ∀ i, i < q 5 → u 0 i ≠ t := fun i hi z => by
          rcases C4 with ⟨a1, a2⟩ | ⟨mm, a1, a2, a3, -, a5⟩
          · have := a2 i hi; omega
          · have := a5 i hi (by omega)
            rw [a3] at gc
            exact gc (by congr 1; omega)
        have g : ∀ k, k ≤ q 5 → sGiv q u v way t k S = S := by
          intro k
          induction k with
          | zero => intro _; rfl
          | succ k ih =>
            intro hk
            rw [sGiv, if_neg (nn k (by omega)), ih (by omega)]
        refine rest h (by unfold sGive; rw [if_neg gb, g _ (Nat.le_refl _)]; exact T) TG_0 E (Or.inr ?_)
        rcases C4 with ⟨a1, a2⟩ | ⟨mm, a1, a2, a3, ⟨j, a4, a4'⟩, a5⟩
        · exact Or.inl ⟨a1, fun i hi => by have := a2 i hi; omega⟩
        · exact Or.inr ⟨mm, a1, by have := nn j a4; omega, a3, ⟨j, a4, a4'⟩, fun i hi z => a5 i hi (by omega)⟩
end
