/-! giving, holds -/
section
variable {q : Nat → Nat} {u : Nat → Nat → Nat} {v : (Nat → Int32) → Int32} {way : Int32} {S : TSt} {o t : Nat} {h h' h2 : PH}
theorem gcar_2 {k : Nat} : ∃ c, c < 2 ∧ gcar q u v way t k S = nI c := by
  unfold gcar
  by_cases g : way = -1
  · rw [if_pos g]
    by_cases g1 : q 1 = 2
    · rw [if_pos g1]
      by_cases g2 : v (fcs q u S 1 k t) < v (fcs q u S 0 k t)
      · rw [if_pos g2]; exact ⟨1, by omega, rfl⟩
      · rw [if_neg g2]; exact ⟨0, by omega, rfl⟩
    · rw [if_neg g1]; exact ⟨0, by omega, rfl⟩
  · rw [if_neg g]
    obtain ⟨j, j1, j2⟩ := pk_andE (way >>> (nI k &&& 31)) (m := 1) 1 (by decide)
    exact ⟨j, by omega, j2⟩
theorem giv_o {a b : Nat} : ∀ k, a ≠ 0 ∨ k ≤ b → sGiv q u v way t k S a b = S a b := by
  intro k
  induction k with
  | zero => intro _; rfl
  | succ k ih =>
    intro z
    unfold sGiv
    by_cases g : u 0 k = t
    · rw [if_pos g, su_e]
      by_cases e : a = 0
      · rw [if_pos e, if_neg (by omega), ih (by omega)]
      · rw [if_neg e, ih (by omega)]
    · rw [if_neg g, ih (by omega)]
theorem g1_ins {k c : Nat} (s1 : S 1 k < 0) {c' i : Nat} : ins (su S 0 k (nI c)) c' i = ins S c' i := by
  unfold ins
  rw [su_s, su_o (by decide), su_o (by decide)]
  by_cases e : i = k
  · subst e
    have := Int32.not_le.mpr s1
    rw [decide_eq_false (fun z => this z.2.1), decide_eq_false (fun z => this z.2.1)]
  · rw [pk_un e]
theorem g1_wtg {k c : Nat} (hc : c < 2) (s0 : S 0 k = -1) (s1 : S 1 k < 0) {c' i : Nat} (hc' : c' < 2) : wtg (su S 0 k (nI c)) c' i = (wtg S c' i || (decide (c' = c) && decide (i = k))) := by
  unfold wtg
  rw [su_s, su_o (by decide)]
  by_cases e : i = k
  · subst e
    rw [pk_us, s0]
    have n1 : ¬ (-1 : Int32) = nI c' := fun z => n_eq_m1 (j := c') (by omega) z.symm
    have c1 : (nI c = nI c') = (c' = c) := by
      apply propext
      rw [c2_eq hc hc']
      exact ⟨fun z => z.symm, fun z => z.symm⟩
    simp [n1, s1, c1]
  · rw [pk_un e]
    simp [e]
theorem g1_ok {k c : Nat} (hk : k < q 5) (hc : c < 2) (K : Sok q S) (s0 : S 0 k = -1) : Sok q (su S 0 k (nI c)) := by
  have s1 : S 1 k = -1 := (K.2 k hk).1 s0
  refine ⟨fun j hj => ?_, fun i hi => ?_⟩
  · unfold fl lod
    rw [su_o (by decide), su_o (by decide), su_o (by decide), fb_ct_cong (fun i _ => g1_ins (by rw [s1]; decide))]
    exact K.1 j hj
  · obtain ⟨a1, a2, a3, a4⟩ := K.2 i hi
    rw [su_s, su_o (by decide), su_o (by decide)]
    refine ⟨fun z => ?_, a2, a3, a4⟩
    by_cases e : i = k
    · subst e; exact s1
    · rw [pk_un e] at z; exact a1 z
theorem giv_ok (K : Sok q S) (U : ∀ k, k < q 5 → u 0 k = t → S 0 k = -1) : ∀ k, k ≤ q 5 → Sok q (sGiv q u v way t k S) := by
  intro k
  induction k with
  | zero => intro _; exact K
  | succ k ih =>
    intro hk
    unfold sGiv
    by_cases g : u 0 k = t
    · rw [if_pos g]
      obtain ⟨c, c1, c2⟩ := gcar_2 (q := q) (u := u) (v := v) (way := way) (t := t) (k := k) (S := sGiv q u v way t k S)
      rw [c2]
      exact g1_ok (by omega) c1 (ih (by omega)) (by rw [giv_o k (by omega)]; exact U k (by omega) g)
    · rw [if_neg g]; exact ih (by omega)
theorem give_b2 {N : Nat} (hN : 2000 ≤ N) (ho : 64 ≤ o) (ht : t < 900) (Q : Qok q u) (K : Sok q S) (U : ∀ k, k < q 5 → u 0 k = t → S 0 k = -1) : ∀ m i fuel h, i + m = q 5 → m < fuel → TrC q u o (sGiv q u v way t i S) h → PqC q u h → RwC v h → okV (F_X10_give_b2 N o fuel (nI t) way (nI i) h) (fun h' => TrC q u o (sGiv q u v way t (q 5) S) h' ∧ TF o h h') := by
  have q5 : q 5 ≤ 24 := Q.2.2.2.2.2.2.2.2.1
  intro m
  induction m with
  | zero =>
    intro i fuel h e1 e2 T P R
    obtain ⟨fu, rfl⟩ : ∃ g, fuel = g + 1 := ⟨fuel - 1, by omega⟩
    rw [F_X10_give_b2, T.2.1, if_pos (nI_le (by omega) (by omega))]
    refine okV_s ⟨?_, TF_0⟩
    rw [show q 5 = i by omega]
    exact T
  | succ m ih =>
    intro i fuel h e1 e2 T P R
    obtain ⟨fu, rfl⟩ : ∃ g, fuel = g + 1 := ⟨fuel - 1, by omega⟩
    have ut := Q.2.2.2.2.2.2.2.2.2.2.2.1 i (by omega)
    have Ki := giv_ok (v := v) (way := way) K U i (by omega)
    rw [F_X10_give_b2, T.2.1, if_neg (nI_ge (by omega) (by omega)), if_pos (nI_in0 (by omega : i < 24) (by omega)), nI_clamp (by omega), (P.2.2.2.2.2.2.2.2.1 i (by omega)).1]
    by_cases g : u 0 i = t
    · rw [if_pos (by rw [g])]
      have s0 : sGiv q u v way t i S 0 i = -1 := by rw [giv_o i (by omega)]; exact U i (by omega) g
      have s1 : sGiv q u v way t i S 1 i < 0 := by rw [(Ki.2 i (by omega)).1 s0]; decide
      -- behind the car's choice
      have rest : ∀ k : PH, (∀ a b, a ≠ 59 → a ≠ 63 → k.1 a b = h.1 a b) → okV (F_X10_give_b42 N o (F_X10_give_b2 N o fu) (nI t) way (nI i) (gcar q u v way t i (sGiv q u v way t i S)) k) (fun h' => TrC q u o (sGiv q u v way t (q 5) S) h' ∧ TF o h h') := fun k z => by
        obtain ⟨c, c1, c2⟩ := gcar_2 (q := q) (u := u) (v := v) (way := way) (t := t) (k := i) (S := sGiv q u v way t i S)
        have Tk := TrC_q (h' := k) T (fun a b w => z a b (by omega) (by omega))
        unfold F_X10_give_b42 F_X10_give_b65
        rw [if_pos (nI_in0 (by omega : i < 24) (by omega)), nI_clamp (by omega), hb_e, c2, if_pos (nI_in0 c1 (by omega)), nI_clamp (by omega), hb_e, ib_e, nI_1, hs_o (show o + 13 ≠ o + 1 by omega)]
        generalize hk2 : hs (hs k (o + 1) i (nI c)) (o + 13) c (k.1 (o + 13) c ||| (1 : Int32) <<< (nI i &&& 31)) = k2
        have f2 : TF o h k2 := by
          rw [← hk2]
          exact TF_s (TF_s (fun a b w => z a b (by omega) (by omega)) (by omega) ho) (by omega) ho
        have e2' : sGiv q u v way t (i + 1) S = su (sGiv q u v way t i S) 0 i (nI c) := by rw [sGiv, if_pos g, c2]
        have T2 : TrC q u o (sGiv q u v way t (i + 1) S) k2 := by
          rw [e2', ← hk2]
          obtain ⟨t1, t2, t3, t4, t5, t6⟩ := Tk
          refine ⟨by rw [hs_o (by omega), hs_o (by omega)]; exact t1, by rw [hs_o (by omega), hs_o (by omega)]; exact t2, TrB_o (by omega) (TrB_s (k := 0) (by decide) t3), fun c' hc' => ⟨?_, ?_⟩, fun f hf => ?_, ?_⟩
          · rw [hs_o (by omega), hs_o (by omega)]
            exact Mk_c (t4 c' hc').1 (fun j _ => (g1_ins s1).symm)
          · rw [hs_1, if_pos rfl]
            by_cases e : c' = c
            · subst e
              rw [if_pos rfl]
              exact Mk_c (Mk_or (t4 c' hc').2 (Mk_1 (by omega) (by omega))) (fun j _ => by rw [g1_wtg c1 s0 s1 hc']; simp)
            · rw [if_neg e, hs_o (by omega)]
              exact Mk_c (t4 c' hc').2 (fun j _ => by rw [g1_wtg c1 s0 s1 hc']; simp [e])
          · rw [hs_o (by omega), hs_o (by omega), hs_o (by omega), hs_o (by omega)]; exact t5 f hf
          · rw [hs_o (by omega), hs_o (by omega)]
            exact Mk_c t6 (fun j _ => by rw [su_o (by decide)])
        exact okV_m (ih (i + 1) fu k2 (by omega) (by omega) T2 (PqC_t ho P f2) (RwC_t ho R f2)) (fun h' w => ⟨w.1, TF_t f2 w.2⟩)
      by_cases gw : way = -1
      · rw [if_pos gw]
        obtain ⟨x, k, e3, rfl, f3⟩ := carByRule_x hN ho Q Ki P R T (by omega : i < q 5) ht
        rw [e3, bI_s]
        have := rest k f3
        rw [gw] at this ⊢
        exact this
      · rw [if_neg gw]
        have := rest h (fun _ _ _ _ => rfl)
        rw [show gcar q u v way t i (sGiv q u v way t i S) = (way >>> (nI i &&& 31)) &&& 1 by unfold gcar; rw [if_neg gw]] at this
        exact this
    · rw [if_neg (fun z => g ((nI_eq (by omega) (by omega)).mp z))]
      unfold F_X10_give_b65
      rw [ib_e, nI_1]
      exact ih (i + 1) fu h (by omega) (by omega) (by rw [sGiv, if_neg g]; exact T) P R
theorem give_x {N : Nat} (hN : 2000 ≤ N) (ho : 64 ≤ o) (ht : t < 900) (Q : Qok q u) (K : Sok q S) (U : ∀ k, k < q 5 → u 0 k = t → S 0 k = -1) (T : TrC q u o S h) (P : PqC q u h) (R : RwC v h) : okV (F_X10_give N o (nI t) way h) (fun h' => TrC q u o (sGiv q u v way t (q 5) S) h' ∧ TF o h h') := by
  have q5 : q 5 ≤ 24 := Q.2.2.2.2.2.2.2.2.1
  exact give_b2 hN ho ht Q K U (q 5) 0 N h (by omega) (by omega) T P R
theorem hold_ok (Q : Qok q u) (K : Sok q S) : ∀ k, k ≤ q 6 → Sok q (sHold u t k S) := by
  intro k
  induction k with
  | zero => intro _; exact K
  | succ k ih =>
    intro hk
    have Kk := ih (by omega)
    have uh := Q.2.2.2.2.2.2.2.2.2.2.2.2 k (by omega)
    unfold sHold
    by_cases g : u 3 k = t ∧ 0 < sHold u t k S 8 (u 4 k)
    · rw [if_pos g]
      refine ok_8 (fun z => ?_) Kk
      have := (Kk.1 (u 4 k) uh.2.1).2.2.2.2 z
      rw [this] at g
      exact absurd g.2 (by decide)
    · rw [if_neg g]; exact Kk
theorem hold_o {a : Nat} (e : a ≠ 8) : ∀ k, sHold u t k S a = S a := by
  intro k
  induction k with
  | zero => rfl
  | succ k ih =>
    unfold sHold
    by_cases g : u 3 k = t ∧ 0 < sHold u t k S 8 (u 4 k)
    · rw [if_pos g, su_o e, ih]
    · rw [if_neg g, ih]
theorem hold_b2 {N : Nat} (ho : 64 ≤ o) (ht : t < 900) (Q : Qok q u) : ∀ m i fuel h, i + m = q 6 → m < fuel → TrC q u o (sHold u t i S) h → PqC q u h → okV (F_X10_holdDoors_b2 N o fuel (nI t) (nI i) h) (fun h' => TrC q u o (sHold u t (q 6) S) h' ∧ TF o h h') := by
  have q6 : q 6 ≤ 8 := Q.2.2.2.2.2.2.2.2.2.1
  intro m
  induction m with
  | zero =>
    intro i fuel h e1 e2 T P
    obtain ⟨fu, rfl⟩ : ∃ g, fuel = g + 1 := ⟨fuel - 1, by omega⟩
    rw [F_X10_holdDoors_b2, P.2.2.2.2.2.2.1, if_pos (nI_le (by omega) (by omega))]
    refine okV_s ⟨?_, TF_0⟩
    rw [show q 6 = i by omega]
    exact T
  | succ m ih =>
    intro i fuel h e1 e2 T P
    obtain ⟨fu, rfl⟩ : ∃ g, fuel = g + 1 := ⟨fuel - 1, by omega⟩
    have uh := Q.2.2.2.2.2.2.2.2.2.2.2.2 i (by omega)
    have ph := P.2.2.2.2.2.2.2.2.2 i (by omega)
    rw [F_X10_holdDoors_b2, P.2.2.2.2.2.2.1, if_neg (nI_ge (by omega) (by omega)), if_pos (nI_in0 (by omega : i < 8) (by omega)), nI_clamp (by omega), ib_e, ph.1, ph.2.1]
    unfold F_X10_holdDoors_b63
    simp only [ib_e, nI_1]
    by_cases g : u 3 i = t
    · rw [if_pos (by rw [g]), if_pos (nI_in0 uh.2.1 (by omega)), nI_clamp (by omega), r_8 T]
      by_cases g2 : sHold u t i S 8 (u 4 i) ≤ 0
      · rw [if_pos g2]
        exact ih (i + 1) fu h (by omega) (by omega) (by rw [sHold, if_neg (fun z => absurd z.2 (Int32.not_lt.mpr g2))]; exact T) P
      · rw [if_neg g2, if_pos (nI_in0 uh.2.1 (by omega)), if_pos (nI_in0 (by omega : i < 8) (by omega)), hb_e, ph.2.2]
        have f2 : TF o h (hs h (o + 11) (u 4 i) (sHold u t i S 8 (u 4 i) + nI (u 5 i))) := TF_s TF_0 (by omega) ho
        exact okV_m (ih (i + 1) fu _ (by omega) (by omega) (by
          rw [sHold, if_pos ⟨g, Int32.not_le.mp g2⟩]
          exact TrC_s (k := 8) (by decide) (by decide) T) (PqC_t ho P f2)) (fun h' w => ⟨w.1, TF_t f2 w.2⟩)
    · rw [if_neg (fun z => g ((nI_eq (by omega) (by omega)).mp z))]
      exact ih (i + 1) fu h (by omega) (by omega) (by rw [sHold, if_neg (fun z => g z.1)]; exact T) P
theorem holdC_x {N : Nat} (hN : 100 ≤ N) (ho : 64 ≤ o) (ht : t < 900) (Q : Qok q u) (T : TrC q u o S h) (P : PqC q u h) : okV (F_X10_holdDoors N o (nI t) h) (fun h' => TrC q u o (sHold u t (q 6) S) h' ∧ TF o h h') := by
  have q6 : q 6 ≤ 8 := Q.2.2.2.2.2.2.2.2.2.1
  exact hold_b2 ho ht Q (q 6) 0 N h (by omega) (by omega) T P
end
/-! moving, letting out -/
section
variable {q : Nat → Nat} {u : Nat → Nat → Nat} {v : (Nat → Int32) → Int32} {way : Int32} {S : TSt} {o t : Nat} {h h' h2 : PH}
theorem mv_d : ∀ a, a < 6 → ∀ y, y < 6 → imin (nI y) (nI a) = nI (min y a) := by decide +kernel
theorem move_x (ho : 64 ≤ o) (Q : Qok q u) (K : Sok q S) (P : PqC q u h) (T : TrC q u o S h) {c y : Nat} {w : Int32} (hc : c < 2) (hy : y < q 0) (hw : ¬ w = 0) (hyw : nI (fl S c) + w = nI y) (hn : y ≠ fl S c) : okV (F_X10_move o (nI c) w h) (fun h' => TrC q u o (sMv S c y) h' ∧ TF o h h') := by
  have q06 : q 0 ≤ 6 := Q.2.1
  have fy := (K.1 c hc).1
  unfold F_X10_move
  rw [if_pos (nI_in0 hc (by omega)), nI_clamp (by omega), r_f T K hc, hyw, ib_e, if_neg hw, if_neg (nlt0 (by omega)), P.1, if_pos (nI_lt hy (by omega)), if_pos (nI_in0 hc (by omega)), mv_d (fl S c) (by omega) y (by omega), ib_e, if_pos (nI_in0 (by omega : min y (fl S c) < 5) (by omega)), nI_clamp (by omega), hb_e, hb_e]
  have f2 : TF o h (hs (hs h (o + 7 + c) (min y (fl S c)) (h.1 (o + 7 + c) (min y (fl S c)) + 1)) (o + 9) c (nI y)) := TF_s (TF_s TF_0 (by omega) ho) (by omega) ho
  refine okV_s ⟨?_, f2⟩
  unfold sMv
  have e7 : o + 7 + c = o + cm (4 + c) := by
    have : c = 0 ∨ c = 1 := by omega
    rcases this with rfl | rfl <;> rfl
  have e8 : h.1 (o + 7 + c) = S (4 + c) := by rw [e7]; exact T.2.2.1 (4 + c) (by omega)
  rw [e8, e7]
  exact TrC_s (k := 6) (by decide) (by decide) (TrC_s (by omega) (by omega) T)
theorem let_s1 {W : Nat → Bool} {i : Nat} (w : W i = true) : su (sLet i W t S) 2 i (nI t) = sLet (i + 1) W t S := by
  funext a b
  unfold su sLet
  by_cases e : a = 2
  · by_cases e2 : b = i
    · subst e2
      rw [if_pos e, if_pos rfl, if_pos ⟨e, by omega, w⟩]
    · rw [if_pos e, if_neg e2]
      by_cases y : b < i ∧ W b = true
      · rw [if_pos ⟨e, y.1, y.2⟩, if_pos ⟨e, by omega, y.2⟩]
      · rw [if_neg (fun z => y z.2), if_neg (fun z => y ⟨by omega, z.2.2⟩)]
  · rw [if_neg e, if_neg (fun z => e z.1), if_neg (fun z => e z.1)]
theorem let_s0 {W : Nat → Bool} {i : Nat} (w : W i = false) : sLet i W t S = sLet (i + 1) W t S := by
  funext a b
  unfold sLet
  by_cases y : a = 2 ∧ b < i ∧ W b = true
  · rw [if_pos y, if_pos ⟨y.1, by omega, y.2.2⟩]
  · rw [if_neg y, if_neg (fun z => by
      by_cases e : b = i
      · rw [e, w] at z; exact absurd z.2.2 (by decide)
      · exact y ⟨z.1, by omega, z.2.2⟩)]
theorem let_00 {W : Nat → Bool} : sLet 0 W t S = S := by
  funext a b
  unfold sLet
  rw [if_neg (fun z => by omega)]
theorem letOut_b3 {N c : Nat} (ho : 64 ≤ o) (hc : c < 2) (ht : t < 900) (Q : Qok q u) {W : Nat → Bool} {x2 : Int32} (M : Mk x2 (q 5) W) (w : ∀ i, i < q 5 → W i = true → ins S c i = true) {h0 : PH} (T : TrC q u o S h0) : ∀ m i fuel h, i + m = q 5 → m < fuel → TrB o (sLet i W t S) h → (∀ a b, a ≠ o + 3 → h.1 a b = h0.1 a b) → okV (F_X10_letOut_b3 N o fuel (nI c) x2 (nI t) (nI i) h) (fun h' => TrC q u o (sLet (q 5) W t S) h' ∧ TF o h h') := by
  have q5 : q 5 ≤ 24 := Q.2.2.2.2.2.2.2.2.1
  intro m
  induction m with
  | zero =>
    intro i fuel h e1 e2 B f0
    obtain ⟨fu, rfl⟩ : ∃ g, fuel = g + 1 := ⟨fuel - 1, by omega⟩
    obtain ⟨t1, t2, t3, t4, t5, t6⟩ := T
    have ei : i = q 5 := by omega
    subst ei
    rw [F_X10_letOut_b3, f0 o 7 (by omega), t2, if_pos (nI_le (by omega) (by omega))]
    unfold F_X10_letOut_b35
    rw [if_pos (nI_in0 hc (by omega)), nI_clamp (by omega), hb_e, hb_e, hs_o (show o ≠ o + 12 by omega)]
    refine okV_s ⟨⟨?_, ?_, TrB_o (by omega) (TrB_o (by omega) B), fun c' hc' => ⟨?_, ?_⟩, fun f hf => ?_, ?_⟩, TF_s (TF_s TF_0 (by omega) ho) (by omega) ho⟩
    · simp only [hs_1]; simp; rw [f0 o 6 (by omega)]; exact t1
    · simp only [hs_1]; simp; rw [f0 o 7 (by omega)]; exact t2
    · rw [hs_o (by omega), hs_1, if_pos rfl]
      by_cases e : c' = c
      · subst e
        rw [if_pos rfl, f0 (o + 12) c' (by omega)]
        exact Mk_c (Mk_sub (t4 c' hc').1 M) (fun j hj => (let_ins (by omega) hj).symm)
      · rw [if_neg e, f0 (o + 12) c' (by omega)]
        refine Mk_c (t4 c' hc').1 (fun j hj => ?_)
        rw [let_ins (by omega) hj]
        cases hw : W j
        · simp
        · have y1 := of_decide_eq_true (w j hj hw)
          have y2 : ins S c' j = false := by
            unfold ins
            apply decide_eq_false
            intro z
            rw [y1.1] at z
            exact e ((c2_eq hc hc').mp z.1).symm
          rw [y2]; rfl
    · rw [hs_o (by omega), hs_o (by omega), f0 (o + 13) c' (by omega)]
      exact Mk_c (t4 c' hc').2 (fun j hj => let_wtg.symm)
    · rw [hs_o (by omega), hs_o (by omega), hs_o (by omega), hs_o (by omega), f0 (o + 14) f (by omega), f0 (o + 15) f (by omega)]; exact t5 f hf
    · rw [hs_1, if_pos rfl, if_pos rfl, f0 o 18 (by omega)]
      refine Mk_c (Mk_sub t6 M) (fun j hj => ?_)
      rw [let_2 hj]
      cases hw : W j
      · simp
      · have := nlt0 (t := t) (by omega)
        simp [this]
  | succ m ih =>
    intro i fuel h e1 e2 B f0
    obtain ⟨fu, rfl⟩ : ∃ g, fuel = g + 1 := ⟨fuel - 1, by omega⟩
    rw [F_X10_letOut_b3, f0 o 7 (by omega), T.2.1, if_neg (nI_ge (by omega) (by omega)), Mk_bit (by omega : i < q 5) (by omega) M]
    unfold F_X10_letOut_b29
    simp only [ib_e, nI_1]
    cases hw : W i
    · rw [if_pos (by decide)]
      exact ih (i + 1) fu h (by omega) (by omega) (by rw [← let_s0 hw]; exact B) f0
    · rw [if_pos rfl, if_neg one10, if_pos (nI_in0 (by omega : i < 24) (by omega)), nI_clamp (by omega), hb_e]
      exact okV_m (ih (i + 1) fu (hs h (o + 3) i (nI t)) (by omega) (by omega) (by rw [← let_s1 hw]; exact TrB_s (k := 2) (by decide) B) (fun a b z => by rw [hs_o z]; exact f0 a b z)) (fun h' z => ⟨z.1, TF_t (TF_s TF_0 (by omega) ho) z.2⟩)
theorem letOut_x {N c : Nat} (hN : 100 ≤ N) (ho : 64 ≤ o) (hc : c < 2) (ht : t < 900) (Q : Qok q u) {W : Nat → Bool} {x2 : Int32} (M : Mk x2 (q 5) W) (w : ∀ i, i < q 5 → W i = true → ins S c i = true) (T : TrC q u o S h) : okV (F_X10_letOut N o (nI c) x2 (nI t) h) (fun h' => TrC q u o (sLet (q 5) W t S) h' ∧ TF o h h') := by
  have q5 : q 5 ≤ 24 := Q.2.2.2.2.2.2.2.2.1
  exact letOut_b3 ho hc ht Q M w T (q 5) 0 N h (by omega) (by omega) (by rw [let_00]; exact T.2.2.1) (fun _ _ _ => rfl)
theorem fleeC_x {N c : Nat} (hN : 100 ≤ N) (ho : 64 ≤ o) (hc : c < 2) (ht : t < 900) (Q : Qok q u) (K : Sok q S) (P : PqC q u h) (T : TrC q u o S h) : okV (F_X10_flee N o (nI c) (nI t) h) (fun h' => TrC q u o (sFlee q c t S) h' ∧ TF o h h') := by
  have q06 : q 0 ≤ 6 := Q.2.1
  have fy := (K.1 c hc).1
  unfold F_X10_flee sFlee
  rw [if_pos (nI_in0 hc (by omega)), nI_clamp (by omega), r_f T K hc]
  by_cases g : fl S c = 0
  · rw [if_pos (by rw [g]; decide), if_pos g, if_pos (nI_in0 hc (by omega))]
    obtain ⟨h', e1, e2⟩ := letOut_x hN ho hc ht Q (T.2.2.2.1 c hc).1 (fun _ _ z => z) T
    rw [e1, bV_s]
    exact okV_s e2
  · rw [if_neg (fun z => g (by have := (n_le_l 0 (by omega) (by omega)).mp z; omega)), if_neg g]
    obtain ⟨h', e1, e2⟩ := move_x ho Q K P T (w := -1) (y := fl S c - 1) hc (by omega) (by decide) (by
      have := pk_m1 (fl S c - 1)
      rw [show fl S c - 1 + 1 = fl S c by omega] at this
      exact this) (by omega)
    rw [e1, bV_s]
    exact okV_s e2
theorem stopsHere_x {c : Nat} (hc : c < 2) (Q : Qok q u) (K : Sok q S) (P : PqC q u h) (T : TrC q u o S h) : F_X10_stopsHere o (nI c) h = some (if mst q u S c = true then 1 else 0, h) := by
  have q06 : q 0 ≤ 6 := Q.2.1
  have q5 : q 5 ≤ 24 := Q.2.2.2.2.2.2.2.2.1
  have fy := (K.1 c hc).1
  have z1 : ((h.1 (o + 12) c) &&& (h.1 (o + 15) (fl S c))) = 0 ↔ exn (q 5) (fun i => ins S c i && decide (u 2 i = fl S c)) = false := by
    rw [Mk_0i (by omega) (Mk_and (T.2.2.2.1 c hc).1 (T.2.2.2.2.1 (fl S c) (by omega)).2), exn_f]
  have z2 : ((h.1 (o + 13) c) &&& (h.1 (o + 14) (fl S c))) = 0 ↔ exn (q 5) (fun i => wtg S c i && decide (u 1 i = fl S c)) = false := by
    rw [Mk_0i (by omega) (Mk_and (T.2.2.2.1 c hc).2 (T.2.2.2.2.1 (fl S c) (by omega)).1), exn_f]
  unfold F_X10_stopsHere F_X10_stopsHere_b47 F_X10_stopsHere_b51 mst
  rw [if_pos (nI_in0 hc (by omega)), nI_clamp (by omega), r_f T K hc, ib_e, if_pos (nI_in0 (by omega : fl S c < 6) (by omega)), nI_clamp (by omega), if_pos (nI_in0 hc (by omega)), if_pos (nI_in0 (by omega : fl S c < 6) (by omega)), hasRoom_x Q K P T hc, bI_s]
  cases g1 : exn (q 5) (fun i => ins S c i && decide (u 2 i = fl S c))
  · rw [if_pos (z1.mpr g1)]
    cases g2 : exn (q 5) (fun i => wtg S c i && decide (u 1 i = fl S c))
    · rw [if_pos (z2.mpr g2)]; rfl
    · rw [if_neg (fun z => by rw [z2.mp z] at g2; exact absurd g2 (by decide))]
      by_cases g3 : lod (q 5) S c < q 2
      · simp [g3]
      · simp [g3]
  · rw [if_neg (fun z => by rw [z1.mp z] at g1; exact absurd g1 (by decide))]; rfl
theorem stop_b29 {N c : Nat} (ho : 64 ≤ o) (hc : c < 2) (ht : t < 900) (Q : Qok q u) (K : Sok q S) : ∀ m i fuel h, i + m = q 5 → m < fuel → TrC q u o (sBrd q u c t i S) h → PqC q u h → okV (F_X10_stop_b29 N o fuel (nI c) (nI t) (nI (fl S c)) (nI i) h) (fun h' => TrC q u o (sDoor (q 3) c (sBrd q u c t (q 5) S)) h' ∧ TF o h h') := by
  have q06 : q 0 ≤ 6 := Q.2.1
  have q5 : q 5 ≤ 24 := Q.2.2.2.2.2.2.2.2.1
  have fy := (K.1 c hc).1
  have fin : ∀ h, TrC q u o (sBrd q u c t (q 5) S) h → PqC q u h → okV (F_X10_stop_b109 N o (nI c) h) (fun h' => TrC q u o (sDoor (q 3) c (sBrd q u c t (q 5) S)) h' ∧ TF o h h') := fun h T P => by
    unfold F_X10_stop_b109
    rw [if_pos (nI_in0 hc (by omega)), nI_clamp (by omega), hb_e, hb_e, P.2.2.2.1, hs_o (show o + 5 ≠ o + 11 by omega), r_3 T]
    exact okV_s ⟨TrC_s (k := 3) (by decide) (by decide) (TrC_s (k := 8) (by decide) (by decide) T), TF_s (TF_s TF_0 (by omega) ho) (by omega) ho⟩
  intro m
  induction m with
  | zero =>
    intro i fuel h e1 e2 T P
    obtain ⟨fu, rfl⟩ : ∃ g, fuel = g + 1 := ⟨fuel - 1, by omega⟩
    have ei : i = q 5 := by omega
    subst ei
    rw [F_X10_stop_b29, T.2.1, if_pos (nI_le (by omega) (by omega))]
    exact fin h T P
  | succ m ih =>
    intro i fuel h e1 e2 T P
    obtain ⟨fu, rfl⟩ : ∃ g, fuel = g + 1 := ⟨fuel - 1, by omega⟩
    have Ki := brd_ok (u := u) (t := t) hc (by omega) K i (by omega)
    have fli : fl (sBrd q u c t i S) c = fl S c := by unfold fl; rw [brd_o (by decide)]
    rw [F_X10_stop_b29, T.2.1, if_neg (nI_ge (by omega) (by omega)), hasRoom_x Q Ki P T hc, bI_s]
    by_cases g : lod (q 5) (sBrd q u c t i S) c < q 2
    · rw [if_pos g, if_neg one10, ib_e, if_pos (nI_in0 hc (by omega)), if_pos (nI_in0 (by omega : fl S c < 6) (by omega)), nI_clamp (by omega), nI_clamp (by omega)]
      have z1 : ((h.1 (o + 13) c &&& h.1 (o + 14) (fl S c)) &&& ((1 : Int32) <<< (nI i &&& 31))) = 0 ↔ (wtg (sBrd q u c t i S) c i && decide (u 1 i = fl S c)) = false := by
        rw [Mk_0i (by omega) (Mk_and (Mk_and (T.2.2.2.1 c hc).2 (T.2.2.2.2.1 (fl S c) (by omega)).1) (Mk_1 (by omega : i < q 5) (by omega)))]
        constructor
        · intro z
          have := z i (by omega)
          simpa using this
        · intro z j hj
          by_cases e : j = i
          · subst e; rw [z]; rfl
          · simp [e]
      unfold F_X10_stop_b103
      simp only [ib_e, nI_1]
      cases g2 : (wtg (sBrd q u c t i S) c i && decide (u 1 i = fl S c))
      · rw [if_pos (z1.mpr g2)]
        refine ih (i + 1) fu h (by omega) (by omega) ?_ P
        have : ¬ sBr q u c i (sBrd q u c t i S) = true := by
          unfold sBr
          rw [fli, g2]
          simp
        rw [sBrd, if_neg this]
        exact T
      · rw [if_neg (fun z => by rw [z1.mp z] at g2; exact absurd g2 (by decide)), if_pos (nI_in0 hc (by omega)), hb_e, hb_e, if_pos (nI_in0 (by omega : i < 24) (by omega)), nI_clamp (by omega), hb_e, hs_o (show o + 12 ≠ o + 13 by omega)]
        have bb : sBr q u c i (sBrd q u c t i S) = true := by
          unfold sBr
          rw [fli, g2]
          simp [g]
        have wi : wtg (sBrd q u c t i S) c i = true := by
          simp at g2
          exact g2.1
        have o2 := (Ki.2 i (by omega)).2.2.1 (of_decide_eq_true wi).2
        have se : sBrd q u c t (i + 1) S = su (sBrd q u c t i S) 1 i (nI t) := by rw [sBrd, if_pos bb]
        generalize hk : hs (hs (hs h (o + 13) c (h.1 (o + 13) c &&& ((1 : Int32) <<< (nI i &&& 31) ^^^ -1))) (o + 12) c (h.1 (o + 12) c ||| (1 : Int32) <<< (nI i &&& 31))) (o + 2) i (nI t) = k
        have f2 : TF o h k := by rw [← hk]; exact TF_s (TF_s (TF_s TF_0 (by omega) ho) (by omega) ho) (by omega) ho
        refine okV_m (ih (i + 1) fu k (by omega) (by omega) ?_ (PqC_t ho P f2)) (fun h' z => ⟨z.1, TF_t f2 z.2⟩)
        rw [se, ← hk]
        obtain ⟨t1, t2, t3, t4, t5, t6⟩ := T
        refine ⟨by rw [hs_o (by omega), hs_o (by omega), hs_o (by omega)]; exact t1, by rw [hs_o (by omega), hs_o (by omega), hs_o (by omega)]; exact t2, TrB_s (k := 1) (by decide) (TrB_o (by omega) (TrB_o (by omega) t3)), fun c' hc' => ⟨?_, ?_⟩, fun f hf => ?_, ?_⟩
        · rw [hs_o (by omega), hs_1, if_pos rfl]
          by_cases e : c' = c
          · subst e
            rw [if_pos rfl]
            refine Mk_c (Mk_or (t4 c' hc').1 (Mk_1 (by omega : i < q 5) (by omega))) (fun j hj => ?_)
            rw [brd_ins hc (by omega) wi o2 hc']
            by_cases ej : j = i
            · simp [ej]
            · simp [ej]
          · rw [if_neg e, hs_o (by omega)]
            refine Mk_c (t4 c' hc').1 (fun j hj => ?_)
            rw [brd_ins hc (by omega) wi o2 hc']
            by_cases ej : j = i
            · subst ej
              rw [if_pos rfl]
              have y1 := of_decide_eq_true wi
              unfold ins
              simp [e]
              intro z
              rw [y1.1] at z
              exact absurd ((c2_eq hc hc').mp z).symm e
            · rw [if_neg ej]
        · rw [hs_o (by omega), hs_o (by omega), hs_1, if_pos rfl]
          by_cases e : c' = c
          · subst e
            rw [if_pos rfl]
            exact Mk_c (Mk_sub (t4 c' hc').2 (Mk_1 (by omega : i < q 5) (by omega))) (fun j hj => by rw [brd_wtg hc (by omega) wi hc']; simp)
          · rw [if_neg e]
            exact Mk_c (t4 c' hc').2 (fun j hj => by rw [brd_wtg hc (by omega) wi hc']; simp [e])
        · rw [hs_o (by omega), hs_o (by omega), hs_o (by omega), hs_o (by omega), hs_o (by omega), hs_o (by omega)]; exact t5 f hf
        · rw [hs_o (by omega), hs_o (by omega), hs_o (by omega)]
          exact Mk_c t6 (fun j _ => by rw [su_o (by decide)])
    · rw [if_neg g, if_pos rfl]
      rw [← brd_full i (q 5) (by omega) g] at T
      exact fin h T P
theorem stopC_x {N c : Nat} (hN : 100 ≤ N) (ho : 64 ≤ o) (hc : c < 2) (ht : t < 900) (Q : Qok q u) (K : Sok q S) (P : PqC q u h) (T : TrC q u o S h) : okV (F_X10_stop N o (nI c) (nI t) h) (fun h' => TrC q u o (sStop q u c t S) h' ∧ TF o h h') := by
  have q06 : q 0 ≤ 6 := Q.2.1
  have q5 : q 5 ≤ 24 := Q.2.2.2.2.2.2.2.2.1
  have fy := (K.1 c hc).1
  have ww : ∀ i, i < q 5 → (ins S c i && decide (u 2 i = fl S c)) = true → ins S c i = true := fun i _ z => by
    simp at z
    exact z.1
  unfold F_X10_stop
  rw [if_pos (nI_in0 hc (by omega)), nI_clamp (by omega), r_f T K hc, ib_e, if_pos (nI_in0 (by omega : fl S c < 6) (by omega)), nI_clamp (by omega)]
  obtain ⟨k, e1, T1, f1⟩ := letOut_x hN ho hc ht Q (Mk_and (T.2.2.2.1 c hc).1 (T.2.2.2.2.1 (fl S c) (by omega)).2) ww T
  rw [e1, bV_s]
  have K1 := let_ok (t := t) (by omega) K ww
  have := stop_b29 (N := N) (S := sOut q u c t S) ho hc ht Q K1 (q 5) 0 N k (by omega) (by omega) T1 (PqC_t ho P f1)
  rw [show fl (sOut q u c t S) c = fl S c from let_fl] at this
  exact okV_m this (fun h' z => ⟨z.1, TF_t f1 z.2⟩)
end
