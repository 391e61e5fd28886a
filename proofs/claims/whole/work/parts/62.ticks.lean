/-! what the walk finds -/
def PF (F : Nat) (T : Nat → Int32 → Bool) (f : Nat) (q : List ((Nat × Nat × Nat) × Nat × Nat × Nat)) (g : Nat → Int32) : Prop := ∀ i, i < q.length → g i = -2 ∨ ∃ v, g i = nI v ∧ OkP F T f (qS q i) v
section
variable {F N nv : Nat} {T : Nat → Int32 → Bool} {f : Nat} {q : List ((Nat × Nat × Nat) × Nat × Nat × Nat)}
theorem bu_a {m : Nat} : nI m + -1 = bu m := by
  cases m with
  | zero => decide
  | succ m => exact pk_m1 m
theorem imin_x {v : Nat} (h : v ≤ 1000) : imin (nI v + 1) 1000 = nI (if v + 1 < 1000 then v + 1 else 1000) := by
  unfold imin
  rw [nI_1]
  by_cases g : v + 1 < 1000
  · rw [if_pos g, if_neg (fun z => by have := (l_lt_n 1000 (by omega) (by omega)).mp z; omega)]
  · rw [if_neg g]
    by_cases g2 : v + 1 = 1000
    · rw [g2, if_neg (by decide)]
    · rw [if_pos ((l_lt_n 1000 (by omega) (by omega)).mpr (by omega))]; rfl
theorem tk100 {g0 : Nat → Int32} {fm len at' : Nat} {P : Nat → Nat} {h0 : PH} (XX : XF F T q.length 0 q) (ql : q.length ≤ 3072) (hl : len ≤ q.length) (W : Wk F T f q g0 fm P len at' h0) : ∀ (k m v : Nat) (h : PH), m ≤ len → m < k → OkP F T f (qS q (if m < len then P m else at')) v → (∀ t, t < len → h.1 38 t = nI (P t)) → okI (F_X0_ticksUntilOpen_b100 N k (nI v) (bu m) h) (fun r h' => (∃ w, r = nI w ∧ OkP F T f (qS q fm) w) ∧ (∀ t, t < m → ∃ w, h'.1 37 (P t) = nI w ∧ OkP F T f (qS q (P t)) w) ∧ (∀ i, (∀ t, t < m → P t ≠ i) → h'.1 37 i = h.1 37 i) ∧ fr [37] h h') := by
  obtain ⟨w1, w2, w3, w4, w5, w6⟩ := W
  intro k
  induction k with
  | zero => intro m v h h1 h2; omega
  | succ k ih =>
    intro m v h h1 h2 O c38
    rw [F_X0_ticksUntilOpen_b100]
    cases m with
    | zero =>
      rw [if_pos (show bu 0 < 0 by decide)]
      refine okI_s ⟨⟨v, rfl, ?_⟩, fun t ht => by omega, fun _ _ => rfl, fr_0⟩
      rw [w6]
      exact O
    | succ m =>
      obtain ⟨p1, p2, p3, -, -⟩ := w2 m (by omega)
      rw [show bu (m + 1) = nI m from rfl, if_neg (nI_pos (by omega)), imin_x O.1, ib_e, if_pos (nI_in0 (by omega) (by omega)), nI_clamp (by omega), c38 m (by omega), if_pos (nI_in0 (by omega) (by omega)), nI_clamp (by omega), hb_e, ib_e, bu_a]
      have O2 : OkP F T f (qS q (P m)) (if v + 1 < 1000 then v + 1 else 1000) := OkP_s p2 (by
        rw [← nb_s XX p1, w3 m (by omega)]
        exact O)
      generalize (if v + 1 < 1000 then v + 1 else 1000) = v2 at O2 ⊢
      refine okI_m (ih m v2 (hs h 37 (P m) (nI v2)) (by omega) (by omega) (by rw [if_pos (by omega)]; exact O2) (fun t ht => by rw [hs_1, if_neg (by decide)]; exact c38 t ht)) (fun r k2 z => ?_)
      obtain ⟨z1, z2, z3, z4⟩ := z
      refine ⟨z1, fun t ht => ?_, fun i hi => ?_, fr_t (fr_s fr_0 (by simp)) z4⟩
      · by_cases e : t = m
        · subst e
          rw [z3 (P t) (fun u hu => w4 u t hu (by omega)), hs_1, if_pos rfl, if_pos rfl]
          exact ⟨v2, rfl, O2⟩
        · exact z2 t (by omega)
      · rw [z3 i (fun t ht => hi t (by omega)), hs_1, if_pos rfl, if_neg (fun y => hi m (by omega) y.symm)]
theorem cyc {g0 : Nat → Int32} {fm len at' j : Nat} {P : Nat → Nat} {h : PH} (XX : XF F T q.length 0 q) (W : Wk F T f q g0 fm P len at' h) (hj : j < len) (e : P j = at') : ∀ p k, j ≤ k → k < len → frg F T f p (qS q (P k)) = true := by
  obtain ⟨w1, w2, w3, w4, w5, w6⟩ := W
  intro p
  induction p with
  | zero => intro k _ _; rfl
  | succ p ih =>
    intro k h1 h2
    obtain ⟨p1, p2, -⟩ := w2 k h2
    rw [frg_s, p2, ← nb_s XX p1, w3 k h2]
    by_cases g : k + 1 < len
    · rw [if_pos g, ih (k + 1) (by omega) g]; rfl
    · rw [if_neg g, ← e, ih j (Nat.le_refl _) hj]; rfl
theorem ticks_x {h : PH} {fm : Nat} (hN : 5000 ≤ N) (hF : F ≤ 6) (G : QG F q) (XX : XF F T q.length 0 q) (hf : f < 6) (A : AC F T q h) (X : XC F T q.length 0 q h) (H : PF F T f q (h.1 37)) (hm : fm < q.length) : okI (F_X0_ticksUntilOpen N (nI fm) (nI f) h) (fun r h' => (∃ w, r = nI w ∧ OkP F T f (qS q fm) w) ∧ PF F T f q (h'.1 37) ∧ fr [37, 38] h h') := by
  have ql := QD_le G.1 hF
  unfold F_X0_ticksUntilOpen
  obtain ⟨P, len, at', h1, e1, W, st, ll, f1⟩ := tk5 (N := N) (g0 := h.1 37) (fm := fm) hF G XX hf N 0 fm (fun _ => 0) h (by omega) A X ⟨hm, fun t ht => by omega, fun t ht => by omega, fun t u _ hu => by omega, fun _ _ _ => rfl, by simp⟩
  rw [show F_X0_ticksUntilOpen_b5 N N (nI f) 0 (nI fm) h = _ from e1]
  have A1 : AC F T q h1 := AC_q A (fun a b c => congrFun (f1 a (by simp; omega)) b)
  have W' := W
  obtain ⟨w1, w2, w3, w4, w5, w6⟩ := W'
  unfold F_X0_ticksUntilOpen_b68
  rw [openAt_x hF G A1 w1 hf, bI_s]
  have fin : ∀ (h2 : PH) (v : Nat), h2.1 37 at' = nI v → OkP F T f (qS q at') v → (∀ i, i ≠ at' → h2.1 37 i = h1.1 37 i) → fr [37] h1 h2 → okI (F_X0_ticksUntilOpen_b86 N (nI len) (nI at') h2) (fun r h' => (∃ w, r = nI w ∧ OkP F T f (qS q fm) w) ∧ PF F T f q (h'.1 37) ∧ fr [37, 38] h h') := by
    intro h2 v e2 O o2 f2
    unfold F_X0_ticksUntilOpen_b86
    rw [if_pos (nI_in0 (by omega) (by omega)), nI_clamp (by omega), e2, ib_e, ib_e, bu_m]
    refine okI_m (tk100 (N := N) XX ql ll W N len v h2 (Nat.le_refl _) (by omega) (by rw [if_neg (by omega)]; exact O) (fun t ht => by rw [f2 38 (by simp)]; exact (w2 t ht).2.2.2.1)) (fun r k z => ?_)
    obtain ⟨z1, z2, z3, z4⟩ := z
    refine ⟨z1, fun i hi => ?_, fr_t f1 (fr_t (fr_w f2 (by simp)) (fr_w z4 (by simp)))⟩
    by_cases g : ∃ t, t < len ∧ P t = i
    · obtain ⟨t, ht, rfl⟩ := g
      exact Or.inr (z2 t ht)
    · have g' : ∀ t, t < len → P t ≠ i := fun t ht y => g ⟨t, ht, y⟩
      rw [z3 i g']
      by_cases y : i = at'
      · subst y; exact Or.inr ⟨v, e2, O⟩
      · rw [o2 i y, w5 i hi g']
        exact H i hi
  by_cases g : opn (qS q at') f = true
  · rw [if_pos g, if_neg (by decide), if_pos (nI_in0 (by omega) (by omega)), nI_clamp (by omega), hb_e]
    exact fin _ 0 (by simp [hs_1, nI_0]) (OkP_o g) (fun i hi => by rw [hs_1, if_pos rfl, if_neg hi]) (fr_s fr_0 (by simp))
  · rw [if_neg g, if_pos rfl]
    by_cases g2 : ∃ t, t < len ∧ P t = at'
    · obtain ⟨t, ht, rfl⟩ := g2
      have := cyc XX W ht rfl
      exact fin h1 1000 (w2 t ht).2.2.2.2 ⟨by omega, fun p hp => ⟨fun _ => this p t (Nat.le_refl _) ht, fun _ => by omega⟩⟩ (fun _ _ => rfl) fr_0
    · have g' : ∀ t, t < len → P t ≠ at' := fun t ht y => g2 ⟨t, ht, y⟩
      have e := w5 at' w1 g'
      rcases H at' w1 with z | ⟨v, z1, z2⟩
      · rcases st with y | y | y
        · rw [e, z] at y; exact absurd rfl y
        · exact absurd y g
        · have el : len = q.length := by omega
          subst el
          obtain ⟨t, ht, y2⟩ := fb_onto (fun t ht => (w2 t ht).1) w4 w1
          exact absurd y2 (g' t ht)
      · exact fin h1 v (by rw [e]; exact z1) z2 (fun _ _ => rfl) fr_0
end
