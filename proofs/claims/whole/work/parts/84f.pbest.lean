/-! best() on both sides -/
section
variable {q : Nat → Nat} {u : Nat → Nat → Nat} {v v' : (Nat → Int32) → Int32} {way : Int32} {S S0 : TSt} {h h' h2 : PH} {N F : Nat}
theorem gcar_v (hw : ¬ way = -1) {t k : Nat} : gcar q u v way t k S = gcar q u v' way t k S := by
  unfold gcar
  rw [if_neg hw, if_neg hw]
theorem sGiv_v (hw : ¬ way = -1) {t : Nat} : ∀ k, sGiv q u v way t k S = sGiv q u v' way t k S := by
  intro k
  induction k with
  | zero => rfl
  | succ k ih => rw [sGiv, sGiv, ih, gcar_v (v' := v') hw]
theorem sStep_v (hw : ¬ way = -1) {t : Nat} : sStep q u v way t S = sStep q u v' way t S := by
  unfold sStep sGive
  rw [sGiv_v (v' := v') hw]
theorem sRun_v (hw : ¬ way = -1) : ∀ k t S, sRun q u v way k t S = sRun q u v' way k t S := by
  intro k
  induction k with
  | zero => intro t S; rfl
  | succ k ih => intro t S; rw [sRun, sRun, sStep_v (v' := v') hw, ih]
theorem sAll_v (hw : ¬ way = -1) : sAll q u v way S = sAll q u v' way S := by
  unfold sAll
  rw [sRun_v (v' := v') hw]
/-- what one aim counts of a run, and the least of the first ways -/
def bval (q : Nat → Nat) (u : Nat → Nat → Nat) (a : Nat) (x : TSt × Int32) : Int32 := if a = 0 then wsum u x.1 (q 5) else if a = 1 then wts u x.1 (lw u x.1 (q 5)) else x.2
def bstep (p : Int32 × Int32) (x w : Int32) : Int32 × Int32 := if x < 0 ∨ (0 ≤ p.1 ∧ p.1 ≤ x) then p else (x, w)
def bst (vals : Nat → Int32) : Nat → Int32 × Int32
  | 0 => (-1, -1)
  | w + 1 => bstep (bst vals w) (vals w) (nI w)
theorem bst_c {f g : Nat → Int32} : ∀ w, (∀ j, j < w → f j = g j) → bst f w = bst g w := by
  intro w
  induction w with
  | zero => intro _; rfl
  | succ w ih => intro e; rw [bst, bst, ih (fun j hj => e j (by omega)), e w (by omega)]
theorem bst_n {f : Nat → Int32} : ∀ w, (bst f w).1 = -1 ∨ 0 ≤ (bst f w).1 := by
  intro w
  induction w with
  | zero => exact Or.inl rfl
  | succ w ih =>
    rw [bst]
    unfold bstep
    by_cases g : f w < 0 ∨ (0 ≤ (bst f w).1 ∧ (bst f w).1 ≤ f w)
    · rw [if_pos g]; exact ih
    · rw [if_neg g]
      refine Or.inr (Int32.not_lt.mp (fun z => g (Or.inl z)))
def bvs (q : Nat → Nat) (u : Nat → Nat → Nat) (Ss : Nat → TSt) (a : Nat) : Nat → Int32 := fun w => bval q u a (sAll q u (fun _ => 0) (nI w) (Ss w))
def bW (q : Nat → Nat) : Nat := if q 1 = 2 then 2 ^ q 5 else 1
def ChB (q : Nat → Nat) (u : Nat → Nat → Nat) (Ss : Nat → TSt) (h : PH) : Prop := Qok q u ∧ 1 ≤ q 5 ∧ q 5 ≤ 8 ∧ (∀ w, w < bW q → Ini (Ss w)) ∧ PqC q u h ∧ PqM q u h ∧ ∀ a, a < 3 → h.1 81 a = (bst (bvs q u Ss a) (bW q)).1 ∧ h.1 82 a = (bst (bvs q u Ss a) (bW q)).2
def ChI (h : PH) : Prop := h.1 80 4 = h.1 51 15 → ∃ q u Ss, ChB q u Ss h
def BeF (h h' : PH) : Prop := ∀ a b, ¬ (a = 59 ∨ a = 63 ∨ (a = 80 ∧ b = 4) ∨ a = 81 ∨ a = 82 ∨ (83 ≤ a ∧ a ≤ 98) ∨ (114 ≤ a ∧ a ≤ 123) ∨ (142 ≤ a ∧ a ≤ 149) ∨ (a = 103 ∧ (b = 0 ∨ b = 74))) → h'.1 a b = h.1 a b
def BeX (h h' : PH) : Prop := ChI h' ∧ BeF h h' ∧ (h'.1 80 4 = h.1 80 4 ∨ h'.1 80 4 = h'.1 51 15)
theorem weigh_x {a : Nat} (ha : a < 3) {x w : Int32} (hx : 0 ≤ x) (hl : h.1 81 a = -1 ∨ 0 ≤ h.1 81 a) : okV (F_X1_weigh (nI a) x w h) (fun h' => h'.1 81 a = (bstep (h.1 81 a, h.1 82 a) x w).1 ∧ h'.1 82 a = (bstep (h.1 81 a, h.1 82 a) x w).2 ∧ ∀ c d, ¬ ((c = 81 ∨ c = 82) ∧ d = a) → h'.1 c d = h.1 c d) := by
  unfold F_X1_weigh F_X1_weigh_b20 bstep
  have ia : inb (nI a) 3 = true := nI_in0 ha (by omega)
  simp only [if_pos ia, hb_e]
  rw [nI_clamp (by omega)]
  have st : ¬ (x < 0 ∨ (0 ≤ h.1 81 a ∧ h.1 81 a ≤ x)) → okV (some (hs (hs h 81 a x) 82 a w)) (fun h' => h'.1 81 a = (if x < 0 ∨ (0 ≤ h.1 81 a ∧ h.1 81 a ≤ x) then (h.1 81 a, h.1 82 a) else (x, w)).1 ∧ h'.1 82 a = (if x < 0 ∨ (0 ≤ h.1 81 a ∧ h.1 81 a ≤ x) then (h.1 81 a, h.1 82 a) else (x, w)).2 ∧ ∀ c d, ¬ ((c = 81 ∨ c = 82) ∧ d = a) → h'.1 c d = h.1 c d) := fun z => by
    rw [if_neg z]
    refine okV_s ⟨by simp [hs_1], by simp [hs_1], fun c d y => ?_⟩
    by_cases e1 : c = 82
    · rw [hs_1, if_pos e1, if_neg (by omega), hs_o (by omega)]
    · rw [hs_o e1, hs_1]
      by_cases e2 : c = 81
      · rw [if_pos e2, if_neg (by omega)]
      · rw [if_neg e2]
  by_cases g1 : h.1 81 a = -1
  · rw [if_pos g1]
    refine st (fun z => ?_)
    rcases z with z | z
    · exact absurd z (Int32.not_lt.mpr hx)
    · rw [g1] at z; exact absurd z.1 (by decide)
  · have p : 0 ≤ h.1 81 a := by
      rcases hl with z | z
      · exact absurd z g1
      · exact z
    rw [if_neg g1]
    by_cases g2 : h.1 81 a ≤ x
    · rw [if_pos g2, if_pos (Or.inr ⟨p, g2⟩)]
      exact okV_s ⟨rfl, rfl, fun _ _ _ => rfl⟩
    · rw [if_neg g2]
      refine st (fun z => ?_)
      rcases z with z | z
      · exact absurd z (Int32.not_lt.mpr hx)
      · exact g2 z.2
theorem run_e (Q : Qok q u) : ∀ k t S, t + k ≤ 900 → (sRun q u v way k t S).2 = -1 ∨ ∃ e, e < 900 ∧ (sRun q u v way k t S).2 = nI e := by
  intro k
  induction k with
  | zero => intro t S _; exact Or.inl rfl
  | succ k ih =>
    intro t S e
    unfold sRun
    split
    · exact Or.inr ⟨t, by omega, rfl⟩
    · exact ih (t + 1) _ (by omega)
theorem all_e (Q : Qok q u) : (sAll q u v way S).2 = -1 ∨ ∃ e, e < 900 ∧ (sAll q u v way S).2 = nI e := by
  unfold sAll
  split
  · exact Or.inr ⟨0, by omega, rfl⟩
  · exact run_e Q 900 0 S (by omega)
theorem bw_le (Q : Qok q u) (h8 : q 5 ≤ 8) : bW q ≤ 256 := by
  unfold bW
  split
  · exact Nat.pow_le_pow_right (by decide) h8
  · omega
theorem weigh81 (hN : 5000 ≤ N) (Q : Qok q u) (h1 : 1 ≤ q 5) (h8 : q 5 ≤ 8) {h0 : PH} (P : PqC q u h0) (R : RwC v h0) : ∀ m w fuel h Ss, w + m = bW q → m < fuel → (∀ j, j < w → Ini (Ss j)) → (∀ a, a < 3 → h.1 81 a = (bst (bvs q u Ss a) w).1 ∧ h.1 82 a = (bst (bvs q u Ss a) w).2) → (∀ a b, ¬ (a = 59 ∨ a = 63 ∨ a = 81 ∨ a = 82 ∨ (83 ≤ a ∧ a ≤ 98)) → h.1 a b = h0.1 a b) → okV (F_X1_weighAll_b81 N fuel (nI (bW q)) (nI w) h) (fun h' => ∃ Ss, (∀ j, j < bW q → Ini (Ss j)) ∧ (∀ a, a < 3 → h'.1 81 a = (bst (bvs q u Ss a) (bW q)).1 ∧ h'.1 82 a = (bst (bvs q u Ss a) (bW q)).2) ∧ ∀ a b, ¬ (a = 59 ∨ a = 63 ∨ a = 81 ∨ a = 82 ∨ (83 ≤ a ∧ a ≤ 98)) → h'.1 a b = h0.1 a b) := by
  have wl := bw_le Q h8
  intro m
  induction m with
  | zero =>
    intro w fuel h Ss e1 e2 I B f
    obtain ⟨fu, rfl⟩ : ∃ g, fuel = g + 1 := ⟨fuel - 1, by omega⟩
    rw [F_X1_weighAll_b81, if_pos (nI_le (by omega) (by omega))]
    rw [show w = bW q by omega] at I B
    exact okV_s ⟨Ss, I, B, f⟩
  | succ m ih =>
    intro w fuel h Ss e1 e2 I B f
    obtain ⟨fu, rfl⟩ : ∃ g, fuel = g + 1 := ⟨fuel - 1, by omega⟩
    have P1 : PqC q u h := PqC_q P (fun a b z => f a b (by omega))
    have R1 : RwC v h := RwC_q R (fun a b z => f a b (by omega))
    have nw : ¬ nI w = -1 := n_eq_m1 (by omega)
    obtain ⟨k1, x1, S0, I0, T, g1⟩ := simC_x (N := N) (o := 83) (way := nI w) (by omega) (by omega) Q P1 R1
    rw [sAll_v (v' := fun _ => 0) nw] at T
    have f1 : ∀ a b, ¬ (a = 59 ∨ a = 63 ∨ (83 ≤ a ∧ a ≤ 98)) → k1.1 a b = h.1 a b := fun a b z => g1 a b (by omega)
    obtain ⟨K2, I2⟩ := all_inv (v := fun _ => 0) (way := nI w) Q I0
    -- the new states
    have Sc : ∀ a, bst (bvs q u (fun j => if j = w then S0 else Ss j) a) w = bst (bvs q u Ss a) w := fun a => bst_c w (fun j hj => by
      unfold bvs
      simp only
      rw [if_neg (by omega)])
    have Sw : ∀ a, bvs q u (fun j => if j = w then S0 else Ss j) a w = bval q u a (sAll q u (fun _ => 0) (nI w) S0) := fun a => by
      show bval q u a (sAll q u (fun _ => 0) (nI w) (if w = w then S0 else Ss w)) = _
      rw [if_pos rfl]
    have nn : ∀ a, a < 3 → k1.1 81 a = (bst (bvs q u Ss a) w).1 ∧ k1.1 82 a = (bst (bvs q u Ss a) w).2 := fun a ha => by
      rw [f1 81 a (by omega), f1 82 a (by omega)]; exact B a ha
    obtain ⟨s, s1, s2⟩ := wsum_n I2 (q 5) (Nat.le_refl _)
    have ll := lw_lt (u := u) (S := (sAll q u (fun _ => 0) (nI w) S0).1) (q 5) (by omega)
    obtain ⟨l, l1, l2⟩ := wts_n I2 (by omega : lw u (sAll q u (fun _ => 0) (nI w) S0).1 (q 5) < q 5)
    rw [F_X1_weighAll_b81, if_neg (nI_ge (by omega) (by omega)), x1, bV_s, sumC_x (by omega) Q T, bI_s]
    obtain ⟨k2, y1, y2, y3, y4⟩ := weigh_x (h := k1) (a := 0) (by omega) (x := wsum u (sAll q u (fun _ => 0) (nI w) S0).1 (q 5)) (w := nI w) (by rw [s2]; exact nI_pos' (by omega)) (by rw [(nn 0 (by omega)).1]; exact bst_n w)
    have T2 : TrE q u 83 (sAll q u (fun _ => 0) (nI w) S0) k2 := TrE_q T (fun a b z => y4 a b (by omega))
    rw [show F_X1_weigh 0 (wsum u (sAll q u (fun _ => 0) (nI w) S0).1 (q 5)) (nI w) k1 = some k2 from y1, bV_s, longC_x (by omega) Q (by omega) T2, bI_s, if_pos (nI_in0 (by omega : lw u (sAll q u (fun _ => 0) (nI w) S0).1 (q 5) < 24) (by omega)), nI_clamp (by omega), show k2.1 87 (lw u (sAll q u (fun _ => 0) (nI w) S0).1 (q 5)) = _ from T2.2.2 _ ll]
    obtain ⟨k3, z1, z2, z3, z4⟩ := weigh_x (h := k2) (a := 1) (by omega) (x := wts u (sAll q u (fun _ => 0) (nI w) S0).1 (lw u (sAll q u (fun _ => 0) (nI w) S0).1 (q 5))) (w := nI w) (by rw [l2]; exact nI_pos' (by omega)) (by rw [y4 81 1 (by omega), (nn 1 (by omega)).1]; exact bst_n w)
    rw [show F_X1_weigh 1 (wts u (sAll q u (fun _ => 0) (nI w) S0).1 (lw u (sAll q u (fun _ => 0) (nI w) S0).1 (q 5))) (nI w) k2 = some k3 from z1, bV_s, z4 83 8 (by omega), y4 83 8 (by omega), show k1.1 83 8 = _ from T.2.1]
    have f3 : ∀ a b, ¬ (a = 59 ∨ a = 63 ∨ a = 81 ∨ a = 82 ∨ (83 ≤ a ∧ a ≤ 98)) → k3.1 a b = h0.1 a b := fun a b y => by
      rw [z4 a b (by omega), y4 a b (by omega), f1 a b (by omega)]; exact f a b y
    have go : ∀ k4 : PH, (∀ c d, ¬ ((c = 81 ∨ c = 82) ∧ d = 2) → k4.1 c d = k3.1 c d) → k4.1 81 2 = (bstep (k3.1 81 2, k3.1 82 2) (sAll q u (fun _ => 0) (nI w) S0).2 (nI w)).1 → k4.1 82 2 = (bstep (k3.1 81 2, k3.1 82 2) (sAll q u (fun _ => 0) (nI w) S0).2 (nI w)).2 → okV (F_X1_weighAll_b81 N fu (nI (bW q)) (nI (w + 1)) k4) (fun h' => ∃ Ss, (∀ j, j < bW q → Ini (Ss j)) ∧ (∀ a, a < 3 → h'.1 81 a = (bst (bvs q u Ss a) (bW q)).1 ∧ h'.1 82 a = (bst (bvs q u Ss a) (bW q)).2) ∧ ∀ a b, ¬ (a = 59 ∨ a = 63 ∨ a = 81 ∨ a = 82 ∨ (83 ≤ a ∧ a ≤ 98)) → h'.1 a b = h0.1 a b) := fun k4 c1 c2 c3 => by
      refine ih (w + 1) fu k4 (fun j => if j = w then S0 else Ss j) (by omega) (by omega) (fun j hj => ?_) (fun a ha => ?_) (fun a b y => by rw [c1 a b (by omega)]; exact f3 a b y)
      · by_cases e : j = w
        · simp [e]; exact I0
        · simp [e]; exact I j (by omega)
      · rw [bst, Sc, Sw]
        have : a = 0 ∨ a = 1 ∨ a = 2 := by omega
        rcases this with rfl | rfl | rfl
        · rw [c1 81 0 (by omega), c1 82 0 (by omega), z4 81 0 (by omega), z4 82 0 (by omega), y2, y3, (nn 0 (by omega)).1, (nn 0 (by omega)).2]
          exact ⟨rfl, rfl⟩
        · rw [c1 81 1 (by omega), c1 82 1 (by omega), z2, z3, y4 81 1 (by omega), y4 82 1 (by omega), (nn 1 (by omega)).1, (nn 1 (by omega)).2]
          exact ⟨rfl, rfl⟩
        · rw [c2, c3, z4 81 2 (by omega), z4 82 2 (by omega), y4 81 2 (by omega), y4 82 2 (by omega), (nn 2 (by omega)).1, (nn 2 (by omega)).2]
          exact ⟨rfl, rfl⟩
    unfold F_X1_weighAll_b152
    simp only [ib_e, nI_1]
    rcases all_e (v := fun _ => 0) (way := nI w) (S := S0) Q with e | ⟨e, e3, e4⟩
    · rw [e, if_pos rfl]
      refine go k3 (fun _ _ _ => rfl) ?_ ?_
      · rw [e]; unfold bstep; rw [if_pos (Or.inl (by decide))]
      · rw [e]; unfold bstep; rw [if_pos (Or.inl (by decide))]
    · rw [e4, if_neg (n_eq_m1 (by omega))]
      obtain ⟨k4, a1, a2, a3, a4⟩ := weigh_x (h := k3) (a := 2) (by omega) (x := nI e) (w := nI w) (nI_pos' (by omega)) (by rw [z4 81 2 (by omega), y4 81 2 (by omega), (nn 2 (by omega)).1]; exact bst_n w)
      rw [show F_X1_weigh 2 (nI e) (nI w) k3 = some k4 from a1, bV_s]
      exact go k4 a4 (by rw [e4]; exact a2) (by rw [e4]; exact a3)
theorem weighAll_x (hN : 5000 ≤ N) (P : Pln q u v h) (h1 : 1 ≤ q 5) (h8 : q 5 ≤ 8) (I : ChI h) : ∃ q' u' Ss h', F_X1_weighAll N h = some h' ∧ ChB q' u' Ss h' ∧ h'.1 80 4 = h'.1 51 15 ∧ ∀ a b, ¬ (a = 59 ∨ a = 63 ∨ (a = 80 ∧ b = 4) ∨ a = 81 ∨ a = 82 ∨ (83 ≤ a ∧ a ≤ 98)) → h'.1 a b = h.1 a b := by
  have Q := P.1
  have q12 : q 1 ≤ 2 := Q.2.2.2.1
  have wl := bw_le Q h8
  unfold F_X1_weighAll
  by_cases g : h.1 80 4 = h.1 51 15
  · rw [if_pos g]
    obtain ⟨q', u', Ss, B⟩ := I g
    exact ⟨q', u', Ss, h, rfl, B, g, fun _ _ _ => rfl⟩
  · rw [if_neg g, P.2.1.2.2.2.2.2.1, if_pos ((n_le_l 8 (by omega) (by omega)).mpr h8), hb_e, hb_e, hb_e]
    generalize hk : hfill (hfill (hs h 80 4 (h.1 51 15)) 81 3 (-1)) 82 3 (-1) = k
    have fk : ∀ a b, ¬ ((a = 80 ∧ b = 4) ∨ a = 81 ∨ a = 82) → k.1 a b = h.1 a b := fun a b z => by
      rw [← hk, hf_o (by omega), hf_o (by omega), hs_1]
      by_cases y : a = 80
      · rw [if_pos y, if_neg (by omega)]
      · rw [if_neg y]
    have k80 : k.1 80 4 = h.1 51 15 := by rw [← hk, hf_o (by decide), hf_o (by decide)]; simp [hs_1]
    have Bk : ∀ a, a < 3 → k.1 81 a = (bst (bvs q u (fun _ _ _ => 0) a) 0).1 ∧ k.1 82 a = (bst (bvs q u (fun _ _ _ => 0) a) 0).2 := fun a ha => by
      rw [← hk]; simp [hf_1, ha, bst]
    have P1 : Pln q u v k := Pln_q P (fun a b z => fk a b (by unfold PlnP at z; omega))
    obtain ⟨h', e1, Ss, s1, s2, s3⟩ := weigh81 (N := N) hN Q h1 h8 P1.2.1 P1.2.2.2.1 (bW q) 0 N k (fun _ _ _ => 0) (by omega) (by omega) (fun j hj => by omega) Bk (fun _ _ _ => rfl)
    have fold : (if k.1 51 8 = 2 then F_X1_weighAll_b78 N ((1 : Int32) <<< (k.1 51 12 &&& 31)) k else F_X1_weighAll_b78 N 1 k) = F_X1_weighAll_b81 N N (nI (bW q)) (nI 0) k := by
      unfold F_X1_weighAll_b78
      rw [P1.2.1.2.1, P1.2.1.2.2.2.2.2.1]
      unfold bW
      by_cases g2 : q 1 = 2
      · have pw : ∀ n, n < 9 → (1 : Int32) <<< (nI n &&& 31) = nI (2 ^ n) := by decide +kernel
        rw [if_pos (by rw [g2]; rfl), if_pos g2, pw (q 5) (by omega)]; rfl
      · rw [if_neg (fun z => g2 ((n_eq_l 2 (by omega) (by omega)).mp z)), if_neg g2]; rfl
    rw [fold, e1]
    refine ⟨q, u, Ss, h', rfl, ⟨Q, h1, h8, s1, PqC_q P1.2.1 (fun a b z => s3 a b (by omega)), PqM_q P1.2.2.1 (fun a b z => s3 a b (by omega)), s2⟩, ?_, fun a b z => ?_⟩
    · rw [s3 80 4 (by omega), s3 51 15 (by omega), k80, fk 51 15 (by omega)]
    · rw [s3 a b (by omega), fk a b (by omega)]
theorem best66 (hN : 5000 ≤ N) (rc : ∀ fa fb, (∀ a, a < 10 → fa a = fb a) → v fa = v fb) (Q : Qok q u) (h1 : 1 ≤ q 5) (h8 : q 5 ≤ 8) {a : Nat} (ha : a < 3) {what : Int32} {Ss : Nat → TSt} (I : ∀ w, w < bW q → Ini (Ss w)) {h0 : PH} (P : PqM q u h0) (R : RwM v h0) : ∀ m w fuel h, w + m = bW q → m < fuel → MG h0 h → okI (F_X12_best_b66 N fuel (nI a) what (bst (bvs q u Ss a) w).1 (bst (bvs q u Ss a) w).2 (nI (bW q)) (nI w) h) (fun r h' => r = (if what = 0 then (bst (bvs q u Ss a) (bW q)).1 else (bst (bvs q u Ss a) (bW q)).2) ∧ MG h0 h') := by
  have wl := bw_le Q h8
  intro m
  induction m with
  | zero =>
    intro w fuel h e1 e2 f
    obtain ⟨fu, rfl⟩ : ∃ g, fuel = g + 1 := ⟨fuel - 1, by omega⟩
    rw [F_X12_best_b66, if_pos (nI_le (by omega) (by omega)), show w = bW q by omega]
    unfold F_X12_best_b129
    by_cases g : what = 0
    · rw [if_pos g, if_pos g]; exact okI_s ⟨rfl, f⟩
    · rw [if_neg g, if_neg g]; exact okI_s ⟨rfl, f⟩
  | succ m ih =>
    intro w fuel h e1 e2 f
    obtain ⟨fu, rfl⟩ : ∃ g, fuel = g + 1 := ⟨fuel - 1, by omega⟩
    have nw : ¬ nI w = -1 := n_eq_m1 (by omega)
    have I0 := I w (by omega)
    obtain ⟨k, x1, ⟨b, T⟩, E, f1⟩ := runsM_x (way := nI w) hN (Or.inr (nI_pos' (by omega))) Q rc (PqM_q P (fun a b z => f a b (by omega))) (RwM_q R (fun a b z => f a b (by omega))) I0
    rw [sAll_v (v' := fun _ => 0) nw] at T E
    have fk := MG_t f f1
    have Pk : PqM q u k := PqM_q P (fun a b z => fk a b (by omega))
    obtain ⟨K2, I2⟩ := all_inv (v := fun _ => 0) (way := nI w) Q I0
    have b96 : okI (F_X12_best_b96 N (F_X12_best_b66 N fu) (nI a) what (bst (bvs q u Ss a) w).1 (bst (bvs q u Ss a) w).2 (nI (bW q)) (nI w) (bvs q u Ss a w) k) (fun r h' => r = (if what = 0 then (bst (bvs q u Ss a) (bW q)).1 else (bst (bvs q u Ss a) (bW q)).2) ∧ MG h0 h') := by
      have i1 := ih (w + 1) fu k (by omega) (by omega) fk
      rw [bst] at i1
      unfold bstep at i1
      unfold F_X12_best_b96 F_X12_best_b116 F_X12_best_b123
      simp only [ib_e, nI_1]
      by_cases g1 : bvs q u Ss a w < 0
      · rw [if_pos g1]
        rw [if_pos (Or.inl g1)] at i1
        exact i1
      · rw [if_neg g1]
        by_cases g2 : (bst (bvs q u Ss a) w).1 < 0
        · rw [if_pos g2]
          rw [if_neg (fun z => by
            rcases z with z | z
            · exact g1 z
            · exact absurd g2 (Int32.not_lt.mpr z.1))] at i1
          exact i1
        · rw [if_neg g2]
          by_cases g3 : bvs q u Ss a w < (bst (bvs q u Ss a) w).1
          · rw [if_pos g3]
            rw [if_neg (fun z => by
              rcases z with z | z
              · exact g1 z
              · exact absurd g3 (Int32.not_lt.mpr z.2))] at i1
            exact i1
          · rw [if_neg g3]
            rw [if_pos (Or.inr ⟨Int32.not_lt.mp g2, Int32.not_lt.mp g3⟩)] at i1
            exact i1
    rw [F_X12_best_b66, if_neg (nI_ge (by omega) (by omega)), x1, bV_s]
    by_cases g : a = 2
    · subst g
      rw [if_pos (show nI 2 = 2 from rfl), E]
      exact b96
    · rw [if_neg (fun z => g ((n_eq_l 2 (by omega) (by omega)).mp z)), wby_x (by omega) Q (by omega) K2 I2 Pk T, bI_s]
      have e : wby q u (sAll q u (fun _ => 0) (nI w) (Ss w)).1 (nI a) = bvs q u Ss a w := by
        have : a = 0 ∨ a = 1 := by omega
        rcases this with rfl | rfl <;> rfl
      rw [e]
      exact b96
theorem P_best (hN : 5000 ≤ N) (B : ∃ q u v, Pln q u v h) (I : ChI h) (a c : Int32) : ∃ r h1 h2, F_X11_best N a c h = some (r, h1) ∧ F_X12_best N a c h1 = some (r, h2) ∧ BeX h h2 := by
  obtain ⟨q, u, v, P⟩ := B
  have Q := P.1
  have q5 : q 5 ≤ 24 := Q.2.2.2.2.2.2.2.2.1
  have q12 : q 1 ≤ 2 := Q.2.2.2.1
  have q11 : 1 ≤ q 1 := Q.2.2.1
  have c12 : h.1 51 12 = nI (q 5) := P.2.1.2.2.2.2.2.1
  have m57 : h.1 103 57 = nI (q 5) := P.2.2.1.2.2.2.2.2.1
  have c0 : ∀ (k : PH) a b, ¬ (a = 103 ∧ b = 0) → (hs k 103 0 0).1 a b = k.1 a b := fun k a b z => by
    rw [hs_1]
    by_cases y : a = 103
    · rw [if_pos y, if_neg (by omega)]
    · rw [if_neg y]
  have X0 : BeX h (hs h 103 0 0) := ⟨fun z => by
    rw [c0 h 80 4 (by omega), c0 h 51 15 (by omega)] at z
    obtain ⟨q', u', Ss, b1, b2, b3, b4, b5, b6, b7⟩ := I z
    exact ⟨q', u', Ss, b1, b2, b3, b4, PqC_q b5 (fun a b z => c0 h a b (by omega)), PqM_q b6 (fun a b z => c0 h a b (by omega)), fun a ha => by rw [c0 h 81 a (by omega), c0 h 82 a (by omega)]; exact b7 a ha⟩, fun a b z => c0 h a b (by omega), Or.inl (c0 h 80 4 (by omega))⟩
  by_cases g : wth (nI (q 5)) 1 8 = true ∧ wth a 0 2 = true ∧ wth c 0 1 = true
  · obtain ⟨g1, g2, g3⟩ := g
    have w1 : 1 ≤ q 5 ∧ q 5 ≤ 8 := by
      obtain ⟨y1, y2⟩ := of_decide_eq_true g1
      exact ⟨(l_le_n 1 (by omega) (by omega)).mp y1, (n_le_l 8 (by omega) (by omega)).mp y2⟩
    obtain ⟨i, hi, rfl⟩ := wth_0n (k := 2) (by omega) g2
    obtain ⟨j, hj, rfl⟩ := wth_0n (k := 1) (by omega) g3
    obtain ⟨q', u', Ss, h1, e1, B1, t1, f1⟩ := weighAll_x hN P w1.1 w1.2 I
    have P0 : Pln q u v (hs h1 103 0 0) := Pln_q P (fun a b z => by unfold PlnP at z; rw [c0 h1 a b (by omega)]; exact f1 a b (by omega))
    obtain ⟨Q', p1, p8, p3, p4, p5, p6⟩ := B1
    have P5 : PqM q' u' (hs h1 103 0 0) := PqM_q p5 (fun a b z => c0 h1 a b (by omega))
    obtain ⟨r, h2, x1, x2, x3⟩ := best66 (N := N) (what := nI j) hN P.2.2.2.1.1 Q' p1 p8 (by omega : i < 3) p3 P5 P0.2.2.2.2 (bW q') 0 N (hs h1 103 0 0) (by omega) (by have := bw_le Q' p8; omega) MG_0
    have m57' : (hs h1 103 0 0).1 103 57 = nI (q 5) := by rw [c0 h1 _ _ (by omega), f1 _ _ (by omega)]; exact m57
    have m53' : (hs h1 103 0 0).1 103 53 = nI (q' 1) := P5.2.1
    have m57'' : (hs h1 103 0 0).1 103 57 = nI (q' 5) := P5.2.2.2.2.2.1
    have q12' : q' 1 ≤ 2 := Q'.2.2.2.1
    have q11' : 1 ≤ q' 1 := Q'.2.2.1
    refine ⟨r, h1, h2, ?_, ?_, ⟨fun _ => ⟨q', u', Ss, Q', p1, p8, p3, PqC_q p4 (fun a b z => by rw [x3 a b (by omega), c0 h1 a b (by omega)]), PqM_q P5 (fun a b z => x3 a b (by omega)), fun a ha => by rw [x3 81 a (by omega), x3 82 a (by omega), c0 h1 81 a (by omega), c0 h1 82 a (by omega)]; exact p6 a ha⟩, fun a b z => by rw [x3 a b (by omega), c0 h1 a b (by omega)]; exact f1 a b (by omega), Or.inr (by rw [x3 80 4 (by omega), x3 51 15 (by omega), c0 h1 80 4 (by omega), c0 h1 51 15 (by omega)]; exact t1)⟩⟩
    · unfold F_X11_best
      rw [if_neg (nlt0 (by omega)), if_neg (fun z => by have := (l_le_n 3 (by omega) (by omega)).mp z; omega), if_neg (nlt0 (by omega)), if_pos ((n_le_l 1 (by omega) (by omega)).mpr hj), c12, if_neg (fun z => by have := (n_eq_l 0 (by omega) (by omega)).mp z; omega), if_pos ((n_le_l 8 (by omega) (by omega)).mpr w1.2), e1, bV_s, if_pos (nI_in0 (by omega : i < 3) (by omega)), if_pos (nI_in0 (by omega : i < 3) (by omega)), nI_clamp (by omega), (p6 i (by omega)).1, (p6 i (by omega)).2, x2]
      by_cases y : j = 0
      · rw [if_pos (by rw [y]; rfl), if_pos (by rw [y]; rfl)]
      · rw [if_neg (fun z => y ((n_eq_l 0 (by omega) (by omega)).mp z)), if_neg (fun z => y ((n_eq_l 0 (by omega) (by omega)).mp z))]
    · unfold F_X12_best F_X12_best_b61
      rw [hb_e, within_x, bI_s, m57', g1, if_pos rfl, if_neg one10, within_x, bI_s, g2, if_pos rfl, if_neg one10, within_x, bI_s, g3, if_pos rfl, if_neg one10, m53', m57']
      have e57 : nI (q 5) = nI (q' 5) := by rw [← m57', m57'']
      have fold : (if nI (q' 1) = 1 then F_X12_best_b66 N N (nI i) (nI j) (-1) (-1) 1 0 (hs h1 103 0 0) else F_X12_best_b66 N N (nI i) (nI j) (-1) (-1) ((1 : Int32) <<< (nI (q 5) &&& 31)) 0 (hs h1 103 0 0)) = F_X12_best_b66 N N (nI i) (nI j) (-1) (-1) (nI (bW q')) (nI 0) (hs h1 103 0 0) := by
        unfold bW
        by_cases y : q' 1 = 2
        · have pw : ∀ n, n < 9 → (1 : Int32) <<< (nI n &&& 31) = nI (2 ^ n) := by decide +kernel
          rw [if_neg (by rw [y]; decide), if_pos y, e57, pw (q' 5) (by omega)]; rfl
        · rw [if_pos (by rw [show q' 1 = 1 by omega]; rfl), if_neg y]; rfl
      rw [fold]
      exact x1
  · refine ⟨-1, h, _, ?_, ?_, X0⟩
    · unfold F_X11_best
      rw [c12]
      by_cases y1 : a < 0
      · rw [if_pos y1]
      · rw [if_neg y1]
        obtain ⟨i, hi, rfl⟩ := nI_of y1
        by_cases y2 : 3 ≤ i
        · rw [if_pos ((l_le_n 3 hi (by omega)).mpr y2)]
        · rw [if_neg (fun z => by have := (l_le_n 3 hi (by omega)).mp z; omega)]
          by_cases y3 : c < 0
          · rw [if_pos y3]
          · rw [if_neg y3]
            obtain ⟨j, hj, rfl⟩ := nI_of y3
            by_cases y4 : j ≤ 1
            · rw [if_pos ((n_le_l 1 hj (by omega)).mpr y4)]
              by_cases y5 : q 5 = 0
              · rw [if_pos (by rw [y5]; rfl)]
              · rw [if_neg (fun z => y5 ((n_eq_l 0 (by omega) (by omega)).mp z))]
                by_cases y6 : q 5 ≤ 8
                · exact absurd ⟨decide_eq_true ⟨(l_le_n 1 (by omega) (by omega)).mpr (by omega), (n_le_l 8 (by omega) (by omega)).mpr y6⟩, decide_eq_true ⟨nI_pos' hi, (n_le_l 2 hi (by omega)).mpr (by omega)⟩, decide_eq_true ⟨nI_pos' hj, (n_le_l 1 hj (by omega)).mpr y4⟩⟩ g
                · rw [if_neg (fun z => y6 ((n_le_l 8 (by omega) (by omega)).mp z))]
            · rw [if_neg (fun z => y4 ((n_le_l 1 hj (by omega)).mp z))]
    · unfold F_X12_best
      rw [hb_e, within_x, bI_s, show (hs h 103 0 0).1 103 57 = nI (q 5) by rw [c0 h _ _ (by omega)]; exact m57]
      by_cases y1 : wth (nI (q 5)) 1 8 = true
      · rw [if_pos y1, if_neg one10, within_x, bI_s]
        by_cases y2 : wth a 0 2 = true
        · rw [if_pos y2, if_neg one10, within_x, bI_s, if_neg (fun z => g ⟨y1, y2, z⟩), if_pos rfl]
        · rw [if_neg y2, if_pos rfl]
      · rw [if_neg y1, if_pos rfl]
end
