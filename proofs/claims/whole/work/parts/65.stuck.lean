/-! those who are held: numbers in the class, states in the reference -/
def HdC (D : List Nat) (h : PH) : Prop := h.1 39 1 = nI D.length ∧ ∀ t, t < D.length → h.1 42 t = nI (D.getD t 0)
def HdM (q : List ((Nat × Nat × Nat) × Nat × Nat × Nat)) (b l : Nat) (D : List Nat) (h : PH) : Prop := h.1 132 l = nI D.length ∧ ∀ t, t < D.length → h.1 131 (b + t) = nI (msN (qS q (D.getD t 0)))
def HdD (n : Nat) (D : List Nat) : Prop := (∀ t, t < D.length → D.getD t 0 < n) ∧ ∀ t u, t < u → u < D.length → D.getD t 0 ≠ D.getD u 0
theorem HdD_le {n : Nat} {D : List Nat} (H : HdD n D) : D.length ≤ n := fb_holes n D.length (fun t => D.getD t 0) H.1 H.2
theorem getD_l {D : List Nat} {x t : Nat} (h : t < D.length) : (D ++ [x]).getD t 0 = D.getD t 0 := by
  rw [List.getD_eq_getElem?_getD, List.getD_eq_getElem?_getD, List.getElem?_append_left h]
theorem getD_n {D : List Nat} {x : Nat} : (D ++ [x]).getD D.length 0 = x := by simp [List.getD_eq_getElem?_getD]
theorem HdD_a {n x : Nat} {D : List Nat} (H : HdD n D) (hx : x < n) (hn : ∀ t, t < D.length → D.getD t 0 ≠ x) : HdD n (D ++ [x]) := by
  refine ⟨fun t ht => ?_, fun t u h1 h2 => ?_⟩
  · rw [List.length_append, List.length_singleton] at ht
    by_cases e : t = D.length
    · rw [e, getD_n]; exact hx
    · rw [getD_l (by omega)]; exact H.1 t (by omega)
  · rw [List.length_append, List.length_singleton] at h2
    rw [getD_l (by omega)]
    by_cases e : u = D.length
    · rw [e, getD_n]; exact hn t (by omega)
    · rw [getD_l (by omega)]; exact H.2 t u h1 (by omega)
def hld (p : Nat → Bool) : Nat → List Nat
  | 0 => []
  | k + 1 => if p k then hld p k ++ [k] else hld p k
theorem hld_lt (p : Nat → Bool) : ∀ k t, t < (hld p k).length → (hld p k).getD t 0 < k := by
  intro k
  induction k with
  | zero => intro t ht; simp [hld] at ht
  | succ k ih =>
    intro t ht
    unfold hld at ht ⊢
    by_cases g : p k = true
    · rw [if_pos g] at ht ⊢
      rw [List.length_append, List.length_singleton] at ht
      by_cases e : t = (hld p k).length
      · rw [e, getD_n]; omega
      · rw [getD_l (by omega)]; have := ih t (by omega); omega
    · rw [if_neg g] at ht ⊢
      have := ih t ht; omega
theorem hld_D (p : Nat → Bool) {n : Nat} : ∀ k, k ≤ n → HdD n (hld p k) := by
  intro k
  induction k with
  | zero => intro _; exact ⟨fun t ht => by simp [hld] at ht, fun t u _ hu => by simp [hld] at hu⟩
  | succ k ih =>
    intro hk
    unfold hld
    by_cases g : p k = true
    · rw [if_pos g]
      exact HdD_a (ih (by omega)) (by omega) (fun t ht z => by have := hld_lt p k t ht; omega)
    · rw [if_neg g]
      exact ih (by omega)
section
variable {F N nv : Nat} {T : Nat → Int32 → Bool} {q : List ((Nat × Nat × Nat) × Nat × Nat × Nat)}
theorem lampsAt_x {h : PH} {i : Nat} (hF : F ≤ 6) (G : QG F q) (A : AC F T q h) (hi : i < q.length) : F_X0_lampsAt (nI i) h = some (nI (lmp T (qS q i)), h) := by
  have ql := QD_le G.1 hF
  unfold F_X0_lampsAt F_X0_lampsAt_b21
  rw [if_neg (nI_pos (by omega)), A.1, if_neg (nI_ge hi (by omega)), if_pos (nI_in0 (by omega) (by omega)), nI_clamp (by omega), (A.2.1 i hi).2.2.2.2]
theorem stateAt_x {h : PH} {i : Nat} (hF : F ≤ 6) (G : QG F q) (A : AC F T q h) (hi : i < q.length) : F_X0_stateAt (nI i) h = some (nI (csN (qS q i)), h) := by
  have ql := QD_le G.1 hF
  unfold F_X0_stateAt F_X0_stateAt_b21
  rw [if_neg (nI_pos (by omega)), A.1, if_neg (nI_ge hi (by omega)), if_pos (nI_in0 (by omega) (by omega)), nI_clamp (by omega), (A.2.1 i hi).1]
theorem lmp_lt {s : Nat × Nat × Nat} : lmp T s < 256 := rl8 _
theorem st25 {a : Nat} (hF : F ≤ 6) (G : QG F q) (ha : a < 256) : ∀ (k i : Nat) (h : PH), i ≤ q.length → 3072 < k + i → AC F T q h → HdC (hld (fun i => decide (lmp T (qS q i) = a)) i) h → okI (F_X3_start_b25 N k (nI a) (nI q.length) (nI i) h) (fun v h' => v = nI (hld (fun i => decide (lmp T (qS q i) = a)) q.length).length ∧ HdC (hld (fun i => decide (lmp T (qS q i) = a)) q.length) h' ∧ fq [42] [(39, 1)] h h') := by
  have ql := QD_le G.1 hF
  intro k
  induction k with
  | zero => intro i h h1 h2; omega
  | succ k ih =>
    intro i h h1 h2 A H
    rw [F_X3_start_b25]
    by_cases g : i = q.length
    · subst g
      rw [if_pos (nI_le (Nat.le_refl _) (by omega))]
      exact okI_s ⟨H.1, H, fq_0⟩
    · have hi : i < q.length := by omega
      have dl := HdD_le (hld_D (fun i => decide (lmp T (qS q i) = a)) (n := i) i (Nat.le_refl _))
      rw [if_neg (nI_ge hi (by omega)), if_neg (fun z => by have := (l_le_n 3072 (by omega) (by omega)).mp z; omega), lampsAt_x hF G A hi, bI_s]
      unfold F_X3_start_b69
      by_cases z : lmp T (qS q i) = a
      · rw [if_pos (by rw [z]), H.1, if_pos (nI_in0 (by omega) (by omega)), nI_clamp (by omega), hb_e, hb_e, ib_e, nI_1]
        have e1 : (hs h 42 (hld (fun i => decide (lmp T (qS q i) = a)) i).length (nI i)).1 39 1 = nI (hld (fun i => decide (lmp T (qS q i) = a)) i).length := by simp [hs_1]; exact H.1
        rw [e1, nI_1]
        have f1 : fq [42] [(39, 1)] h (hs (hs h 42 (hld (fun i => decide (lmp T (qS q i) = a)) i).length (nI i)) 39 1 (nI ((hld (fun i => decide (lmp T (qS q i) = a)) i).length + 1))) := fq_s (fq_s fq_0 (Or.inl (by simp))) (Or.inr (by simp))
        refine okI_m (ih (i + 1) _ (by omega) (by omega) (AC_q A (fun a b c => f1 a b (by simp; omega) (by simp; omega))) ?_) (fun v k y => ⟨y.1, y.2.1, fq_t f1 y.2.2⟩)
        rw [hld, if_pos (by simp [z])]
        refine ⟨by simp [hs_1], fun t ht => ?_⟩
        rw [List.length_append, List.length_singleton] at ht
        by_cases e : t = (hld (fun i => decide (lmp T (qS q i) = a)) i).length
        · rw [e, getD_n]; simp [hs_1]
        · rw [getD_l (by omega)]; simp [hs_1, e]; exact H.2 t (by omega)
      · rw [if_neg (fun y => z ((nI_eq (by have := lmp_lt (T := T) (s := qS q i); omega) (by omega)).mp y)), ib_e, nI_1]
        refine ih (i + 1) h (by omega) (by omega) A ?_
        rw [hld, if_neg (by simp [z])]
        exact H
theorem st36 {a : Nat} (hF : F ≤ 6) (G : QG F q) (ha : a < 256) : ∀ (k i : Nat) (h : PH), i ≤ q.length → 3072 < k + i → AM F T q h → HdM q 0 0 (hld (fun i => decide (lmp T (qS q i) = a)) i) h → okI (F_X12_stuck_b36 N k (nI a) (nI i) h) (fun v h' => v = nI (hld (fun i => decide (lmp T (qS q i) = a)) q.length).length ∧ HdM q 0 0 (hld (fun i => decide (lmp T (qS q i) = a)) q.length) h' ∧ fq [131] [(132, 0)] h h') := by
  have ql := QD_le G.1 hF
  intro k
  induction k with
  | zero => intro i h h1 h2; omega
  | succ k ih =>
    intro i h h1 h2 A H
    rw [F_X12_stuck_b36, A.1]
    by_cases g : i = q.length
    · subst g
      rw [if_pos (nI_le (Nat.le_refl _) (by omega))]
      unfold F_X12_stuck_b92
      rw [if_pos (by decide)]
      exact okI_s ⟨H.1, H, fq_0⟩
    · have hi : i < q.length := by omega
      have ml := ms_lt (G.1.1 i hi) hF
      have dl := HdD_le (hld_D (fun i => decide (lmp T (qS q i) = a)) (n := i) i (Nat.le_refl _))
      obtain ⟨b1, b2, b3, b4, b5⟩ := A.2.1 i hi
      have c0 : (0 : Int32).toNatClampNeg = 0 := rfl
      rw [if_neg (nI_ge hi (by omega)), if_pos (nI_in0 (by omega) (by omega)), nI_clamp (by omega), b1, if_pos (nI_in0 ml (by omega)), nI_clamp (show msN (qS q i) < 2 ^ 31 by omega), b5]
      unfold F_X12_stuck_b86
      by_cases z : lmp T (qS q i) = a
      · rw [if_pos (by rw [z]), if_pos (by decide), if_pos (nI_in0 (by omega) (by omega)), c0, H.1, if_pos (nI_in0 (by omega) (by omega)), nI_clamp (by omega), hb_e, hb_e, ib_e, nI_1]
        have e1 : (hs h 131 (hld (fun i => decide (lmp T (qS q i) = a)) i).length (nI (msN (qS q i)))).1 132 0 = nI (hld (fun i => decide (lmp T (qS q i) = a)) i).length := by simp [hs_1]; exact H.1
        rw [e1, nI_1]
        have f1 : fq [131] [(132, 0)] h (hs (hs h 131 (hld (fun i => decide (lmp T (qS q i) = a)) i).length (nI (msN (qS q i)))) 132 0 (nI ((hld (fun i => decide (lmp T (qS q i) = a)) i).length + 1))) := fq_s (fq_s fq_0 (Or.inl (by simp))) (Or.inr (by simp))
        refine okI_m (ih (i + 1) _ (by omega) (by omega) (AM_q A (fun a b c => f1 a b (by simp; omega) (by simp; omega))) ?_) (fun v k y => ⟨y.1, y.2.1, fq_t f1 y.2.2⟩)
        rw [hld, if_pos (by simp [z])]
        refine ⟨by simp [hs_1], fun t ht => ?_⟩
        rw [List.length_append, List.length_singleton] at ht
        rw [Nat.zero_add]
        by_cases e : t = (hld (fun i => decide (lmp T (qS q i) = a)) i).length
        · rw [e, getD_n]; simp [hs_1]
        · rw [getD_l (by omega)]; simp [hs_1, e]; have := H.2 t (by omega); rw [Nat.zero_add] at this; exact this
      · rw [if_neg (fun y => z ((nI_eq (by have := lmp_lt (T := T) (s := qS q i); omega) (by omega)).mp y)), ib_e, nI_1]
        refine ih (i + 1) h (by omega) (by omega) A ?_
        rw [hld, if_neg (by simp [z])]
        exact H
end
