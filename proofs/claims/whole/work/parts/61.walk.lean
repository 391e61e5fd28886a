/-! how many ticks until the door is open: the class's walk -/
theorem bIn_XF {F : Nat} {T : Nat → Int32 → Bool} {q : List ((Nat × Nat × Nat) × Nat × Nat × Nat)} {i : Nat} (G : QG F q) (hi : i < q.length) (X : XF F T i 0 q) : ∀ k, k ≤ F + 1 → XF F T i k (bIn F T i k q) := by
  intro k
  induction k with
  | zero => intro _; exact X
  | succ k ih =>
    intro hk
    obtain ⟨a, b⟩ := bIn_ok (T := T) G hi k (by omega)
    exact XF_s a (Nat.lt_of_lt_of_le hi b.1) (by omega) (ih (by omega))
theorem bOut_XF {F : Nat} {T : Nat → Int32 → Bool} (hF : F ≤ 6) : ∀ m i (q : List ((Nat × Nat × Nat) × Nat × Nat × Nat)), 3072 < m + i → i ≤ q.length → QG F q → XF F T i 0 q → XF F T (bOut F T m i q).length 0 (bOut F T m i q) := by
  intro m
  induction m with
  | zero => intro i q h1 h2 G; have := QD_le G.1 hF; omega
  | succ m ih =>
    intro i q h1 h2 G X
    unfold bOut
    by_cases g : q.length ≤ i
    · rw [if_pos g]
      exact fun a b hb ha c => X a b hb ha (by omega)
    · rw [if_neg g]
      obtain ⟨a, b⟩ := bIn_ok (T := T) (i := i) G (by omega) (F + 1) (Nat.le_refl _)
      exact ih (i + 1) _ (by omega) (by have := b.1; omega) a (XF_0 (bIn_XF G (by omega) X (F + 1) (Nat.le_refl _)))
theorem qAll_X {F : Nat} {T : Nat → Int32 → Bool} (hF0 : 0 < F) (hF : F ≤ 6) : XF F T (qAll F T).length 0 (qAll F T) := bOut_XF hF 3073 0 q0 (by omega) (by omega) (QG_0 hF0) (fun a b hb ha c => by omega)
def OkP (F : Nat) (T : Nat → Int32 → Bool) (f : Nat) (s : Nat × Nat × Nat) (v : Nat) : Prop := v ≤ 1000 ∧ ∀ p, p ≤ 60 → (p ≤ v ↔ frg F T f p s = true)
section
variable {F N nv : Nat} {T : Nat → Int32 → Bool} {f : Nat} {s : Nat × Nat × Nat}
theorem frg_s {p : Nat} : frg F T f (p + 1) s = (!opn s f && frg F T f p (nxt F T s 0).1) := rfl
theorem frg_m : ∀ p s, frg F T f (p + 1) s = true → frg F T f p s = true := by
  intro p
  induction p with
  | zero => intro s _; rfl
  | succ p ih =>
    intro s h
    rw [frg_s, Bool.and_eq_true] at h ⊢
    exact ⟨h.1, ih _ h.2⟩
theorem frg_le {p p' : Nat} (h : p ≤ p') : ∀ s, frg F T f p' s = true → frg F T f p s = true := by
  induction h with
  | refl => intro s h; exact h
  | step h ih => intro s h; exact ih s (frg_m _ _ h)
theorem OkP_o (h : opn s f = true) : OkP F T f s 0 := by
  refine ⟨by omega, fun p hp => ?_⟩
  cases p with
  | zero => simp [frg]
  | succ p => rw [frg_s, h]; simp
theorem OkP_s {v : Nat} (h : opn s f = false) (P : OkP F T f (nxt F T s 0).1 v) : OkP F T f s (if v + 1 < 1000 then v + 1 else 1000) := by
  refine ⟨by by_cases g : v + 1 < 1000 <;> simp [g]; omega, fun p hp => ?_⟩
  cases p with
  | zero => simp [frg]
  | succ p =>
    rw [frg_s, h, show (!false && frg F T f p (nxt F T s 0).1) = frg F T f p (nxt F T s 0).1 from rfl, ← P.2 p (by omega)]
    have := P.1
    by_cases g : v + 1 < 1000
    · rw [if_pos g]; omega
    · rw [if_neg g]; omega
def nb (F : Nat) (T : Nat → Int32 → Bool) (q : List ((Nat × Nat × Nat) × Nat × Nat × Nat)) (i : Nat) : Nat := qIx q (nxt F T (qS q i) 0).1
variable {q : List ((Nat × Nat × Nat) × Nat × Nat × Nat)}
theorem nb_lt (X : XF F T q.length 0 q) {i : Nat} (h : i < q.length) : nb F T q i < q.length := X i 0 (by omega) h (Or.inl h)
theorem nb_s (X : XF F T q.length 0 q) {i : Nat} (h : i < q.length) : qS q (nb F T q i) = (nxt F T (qS q i) 0).1 := qIx_s (nb_lt X h)
/-- the path so far: len states, then at -/
def Wk (F : Nat) (T : Nat → Int32 → Bool) (f : Nat) (q : List ((Nat × Nat × Nat) × Nat × Nat × Nat)) (g0 : Nat → Int32) (fm : Nat) (P : Nat → Nat) (len at' : Nat) (h : PH) : Prop := at' < q.length ∧ (∀ t, t < len → P t < q.length ∧ opn (qS q (P t)) f = false ∧ g0 (P t) = -2 ∧ h.1 38 t = nI (P t) ∧ h.1 37 (P t) = nI 1000) ∧ (∀ t, t < len → nb F T q (P t) = if t + 1 < len then P (t + 1) else at') ∧ (∀ t u, t < u → u < len → P t ≠ P u) ∧ (∀ i, i < q.length → (∀ t, t < len → P t ≠ i) → h.1 37 i = g0 i) ∧ fm = (if 0 < len then P 0 else at')
theorem openAt_x {h : PH} {i : Nat} (hF : F ≤ 6) (G : QG F q) (A : AC F T q h) (hi : i < q.length) (hf : f < 6) : F_X0_isOpenAt (nI i) (nI f) h = some (if opn (qS q i) f = true then 1 else 0, h) := by
  have ql := QD_le G.1 hF
  have o := G.1.1 i hi
  unfold F_X0_isOpenAt F_X0_isOpenAt_b30
  rw [if_pos (nI_in0 (by omega) (by omega)), nI_clamp (by omega), (A.2.1 i hi).1, doorC o hF, bI_s, if_pos (nI_in0 (by omega) (by omega)), (A.2.1 i hi).1, floorC o hF, bI_s]
  have h2 := o.2.2
  have h1 := o.2.1
  unfold opn
  by_cases g : (qS q i).2.2 = 1
  · rw [g, if_pos (show nI 1 = (1 : Int32) from rfl)]
    by_cases g2 : (qS q i).2.1 = f
    · rw [if_pos (by rw [g2]), if_pos (by simp [g2])]
    · rw [if_neg (fun z => g2 ((nI_eq (by omega) (by omega)).mp z)), if_neg (by simp [g2])]
  · rw [if_neg (fun z => g ((n_eq_l 1 (by omega) (by omega)).mp z)), if_neg (by simp [g])]
theorem behind_x {h : PH} {i j : Nat} (hF : F ≤ 6) (G : QG F q) (A : AC F T q h) (X : XC F T q.length 0 q h) (hi : i < q.length) (hj : j ≤ F) : F_X0_behind (nI i) (nI j) h = some (nI (qIx q (nxt F T (qS q i) j).1), h) := by
  have ql := QD_le G.1 hF
  unfold F_X0_behind
  rw [if_neg (nI_pos (by omega)), A.1, if_neg (nI_ge hi (by omega)), if_neg (nI_pos (by omega)), if_pos ((n_lt_l 7 (by omega) (by omega)).mpr (by omega)), show (7 : Int32) = nI 7 from rfl, pk_mul, nI_add, if_pos (nI_in0 (by omega) (by omega)), nI_clamp (by omega), X i j hj hi (Or.inl hi)]
theorem tk5 {g0 : Nat → Int32} {fm : Nat} (hF : F ≤ 6) (G : QG F q) (XX : XF F T q.length 0 q) (hf : f < 6) : ∀ (k len at' : Nat) (P : Nat → Nat) (h : PH), 3072 < k + len → AC F T q h → XC F T q.length 0 q h → Wk F T f q g0 fm P len at' h → ∃ P' len' at2 h', F_X0_ticksUntilOpen_b5 N k (nI f) (nI len) (nI at') h = F_X0_ticksUntilOpen_b68 N (nI f) (nI len') (nI at2) h' ∧ Wk F T f q g0 fm P' len' at2 h' ∧ (h'.1 37 at2 ≠ -2 ∨ opn (qS q at2) f = true ∨ q.length ≤ len') ∧ len' ≤ q.length ∧ fr [37, 38] h h' := by
  have ql := QD_le G.1 hF
  intro k
  induction k with
  | zero =>
    intro len at' P h h1 A X W
    have : len ≤ q.length := fb_holes q.length len P (fun t ht => (W.2.1 t ht).1) W.2.2.2.1
    omega
  | succ k ih =>
    intro len at' P h h1 A X W
    have ll : len ≤ q.length := fb_holes q.length len P (fun t ht => (W.2.1 t ht).1) W.2.2.2.1
    obtain ⟨w1, w2, w3, w4, w5, w6⟩ := W
    have W : Wk F T f q g0 fm P len at' h := ⟨w1, w2, w3, w4, w5, w6⟩
    rw [F_X0_ticksUntilOpen_b5, A.1]
    by_cases g : q.length ≤ len
    · rw [if_pos (nI_le g (by omega))]
      exact ⟨P, len, at', h, rfl, W, Or.inr (Or.inr g), ll, fr_0⟩
    · rw [if_neg (nI_ge (by omega) (by omega)), if_pos (nI_in0 (by omega) (by omega)), nI_clamp (by omega)]
      by_cases g2 : h.1 37 at' = -2
      · rw [if_pos g2, openAt_x hF G A w1 hf, bI_s]
        by_cases g3 : opn (qS q at') f = true
        · rw [if_pos g3, if_neg (by decide)]
          exact ⟨P, len, at', h, rfl, W, Or.inr (Or.inl g3), ll, fr_0⟩
        · have g3' : opn (qS q at') f = false := by
            cases z : opn (qS q at') f with
            | true => exact absurd z g3
            | false => rfl
          rw [if_neg g3, if_pos rfl, if_pos (nI_in0 (by omega) (by omega)), hb_e, if_pos (nI_in0 (by omega) (by omega)), nI_clamp (by omega), hb_e]
          generalize hk : hs (hs h 37 at' 1000) 38 len (nI at') = h2
          have f2 : fr [37, 38] h h2 := by rw [← hk]; exact fr_s (fr_s fr_0 (by simp)) (by simp)
          have A2 : AC F T q h2 := AC_q A (fun a b c => congrFun (f2 a (by simp; omega)) b)
          have X2 : XC F T q.length 0 q h2 := fun a b c d e => by rw [f2 36 (by simp)]; exact X a b c d e
          have new : ∀ t, t < len → P t ≠ at' := fun t ht z => by
            have := (w2 t ht).2.2.2.2
            rw [z, g2] at this
            exact absurd this (by decide)
          have c38 : ∀ t, h2.1 38 t = if t = len then nI at' else h.1 38 t := fun t => by rw [← hk]; simp [hs_1]
          have c37 : ∀ t, h2.1 37 t = if t = at' then nI 1000 else h.1 37 t := fun t => by rw [← hk]; simp [hs_1]; rfl
          rw [show (0 : Int32) = nI 0 from rfl, behind_x hF G A2 X2 w1 (Nat.zero_le _), bI_s, ib_e, nI_1]
          have W2 : Wk F T f q g0 fm (fun t => if t = len then at' else P t) (len + 1) (nb F T q at') h2 := by
            refine ⟨nb_lt XX w1, fun t ht => ?_, fun t ht => ?_, fun t u h1 h2 => ?_, fun i hi c => ?_, ?_⟩
            · by_cases e : t = len
              · subst e
                simp only [if_true]
                rw [c38, if_pos rfl, c37, if_pos rfl]
                refine ⟨w1, g3', ?_, rfl, rfl⟩
                rw [← w5 at' w1 new]; exact g2
              · simp only [if_neg e]
                rw [c38, if_neg e, c37, if_neg (new t (by omega))]
                exact w2 t (by omega)
            · by_cases e : t = len
              · subst e
                simp
              · simp only [if_neg e]
                rw [w3 t (by omega), if_pos (by omega : t + 1 < len + 1)]
                by_cases e2 : t + 1 = len
                · rw [if_neg (by omega), if_pos e2]
                · rw [if_pos (by omega), if_neg e2]
            · have e : ¬ t = len := by omega
              simp only [if_neg e]
              by_cases e2 : u = len
              · simp only [if_pos e2]; exact new t (by omega)
              · simp only [if_neg e2]; exact w4 t u h1 (by omega)
            · have ne : ¬ i = at' := fun z => c len (by omega) (by simp [z])
              rw [c37, if_neg ne]
              exact w5 i hi (fun t ht z => c t (by omega) (by simp only [if_neg (show ¬ t = len by omega)]; exact z))
            · rw [if_pos (by omega), w6]
              by_cases e : 0 = len
              · simp only [if_pos e]; rw [if_neg (by omega)]
              · simp only [if_neg e]; rw [if_pos (by omega)]
          obtain ⟨P', l', a', h', q1, q2, q3, q4, q5⟩ := ih (len + 1) (nb F T q at') _ h2 (by omega) A2 X2 W2
          exact ⟨P', l', a', h', q1, q2, q3, q4, fr_t f2 q5⟩
      · rw [if_neg g2]
        exact ⟨P, len, at', h, rfl, W, Or.inl g2, ll, fr_0⟩
end
