/-! forgets() and forgetsRow() -/
section
variable {F N nv : Nat} {T : Nat → Int32 → Bool} {f : Nat}
theorem ff44 {i v : Nat} {rc : Int32 → Int32 → Int32 → PH → Option PH} {s : Nat × Nat × Nat} (hf : f < 6) (O : OkP F T f s v) (hi : i < 3072) : ∀ (k pt : Nat) (h : PH), pt ≤ 61 → 61 < k + pt → ∃ pt' h', F_X0_findForgetters_b44 N rc k (nI f) (nI pt) (nI i) (nI (1 + v)) h = F_X0_findForgetters_b71 N rc (nI f) (nI pt') (nI i) h' ∧ pt ≤ pt' ∧ pt' ≤ 61 ∧ (∀ p, pt ≤ p → p < pt' → h'.1 (24 + f) p = nI i ∧ frg F T f p s = true) ∧ (∀ p, p < pt ∨ pt' ≤ p → h'.1 (24 + f) p = h.1 (24 + f) p) ∧ (pt' ≤ 60 → frg F T f pt' s = false) ∧ fr [24 + f] h h' := by
  intro k
  induction k with
  | zero => intro pt h h1 h2; omega
  | succ k ih =>
    intro pt h h1 h2
    have v1 := O.1
    rw [F_X0_findForgetters_b44]
    by_cases g : 60 < pt
    · rw [if_pos ((l_lt_n 60 (by omega) (by omega)).mpr g)]
      exact ⟨pt, h, rfl, Nat.le_refl _, h1, fun p a b => by omega, fun _ _ => rfl, fun z => by omega, fr_0⟩
    · rw [if_neg (fun z => g ((l_lt_n 60 (by omega) (by omega)).mp z))]
      have op := O.2 pt (by omega)
      by_cases g2 : 1 + v ≤ pt
      · rw [if_pos (nI_le g2 (by omega))]
        refine ⟨pt, h, rfl, Nat.le_refl _, h1, fun p a b => by omega, fun _ _ => rfl, fun _ => ?_, fr_0⟩
        cases z : frg F T f pt s with
        | false => rfl
        | true => have := op.mpr z; omega
      · rw [if_neg (nI_ge (by omega) (by omega)), if_pos (nI_in0 hf (by omega)), if_pos (nI_in0 (by omega) (by omega)), nI_clamp (by omega), nI_clamp (by omega), hb_e, ib_e, nI_1]
        obtain ⟨pt', h', q1, q2, q3, q4, q5, q6, q7⟩ := ih (pt + 1) (hs h (24 + f) pt (nI i)) (by omega) (by omega)
        refine ⟨pt', h', q1, by omega, q3, fun p a b => ?_, fun p a => ?_, q6, fr_t (fr_s fr_0 (by simp)) q7⟩
        · by_cases e : p = pt
          · subst e
            rw [q5 p (by omega)]
            exact ⟨by simp [hs_1], op.mp (by omega)⟩
          · exact q4 p (by omega) b
        · rw [q5 p (by omega), hs_1, if_pos rfl, if_neg (by omega)]
theorem ff77 (hf : f < 6) : ∀ (k pt : Nat) (h : PH), pt ≤ 61 → 61 < k + pt → okV (F_X0_findForgetters_b77 N k (nI f) (nI pt) h) (fun h' => (∀ p, pt ≤ p → p ≤ 60 → h'.1 (24 + f) p = -1) ∧ (∀ p, p < pt → h'.1 (24 + f) p = h.1 (24 + f) p) ∧ fr [24 + f] h h') := by
  intro k
  induction k with
  | zero => intro pt h h1 h2; omega
  | succ k ih =>
    intro pt h h1 h2
    rw [F_X0_findForgetters_b77]
    by_cases g : 60 < pt
    · rw [if_pos ((l_lt_n 60 (by omega) (by omega)).mpr g)]
      exact okV_s ⟨fun p a b => by omega, fun _ _ => rfl, fr_0⟩
    · rw [if_neg (fun z => g ((l_lt_n 60 (by omega) (by omega)).mp z)), if_pos (nI_in0 hf (by omega)), if_pos (nI_in0 (by omega) (by omega)), nI_clamp (by omega), nI_clamp (by omega), hb_e, ib_e, nI_1]
      refine okV_m (ih (pt + 1) (hs h (24 + f) pt (-1)) (by omega) (by omega)) (fun h' z => ⟨fun p a b => ?_, fun p a => ?_, fr_t (fr_s fr_0 (by simp)) z.2.2⟩)
      · by_cases e : p = pt
        · subst e
          rw [z.2.1 p (by omega)]; simp [hs_1]
        · exact z.1 p (by omega) b
      · rw [z.2.1 p (by omega), hs_1, if_pos rfl, if_neg (by omega)]
theorem fg_le {p : Nat} : fgN F T f p ≤ (qAll F T).length := fa_first_le _ _
theorem fg_y {p : Nat} (h : fgN F T f p < (qAll F T).length) : frg F T f p (nxt F T (qS (qAll F T) (fgN F T f p)) (f + 1)).1 = true := fa_first_yes (fun i => frg F T f p (nxt F T (qS (qAll F T) i) (f + 1)).1) _ h
theorem fg_n {p k : Nat} (h : k < fgN F T f p) : frg F T f p (nxt F T (qS (qAll F T) k) (f + 1)).1 = false := fa_first_no (fun i => frg F T f p (nxt F T (qS (qAll F T) i) (f + 1)).1) _ k h
theorem ff13 (hN : 5000 ≤ N) (hF0 : 0 < F) (hF : F ≤ 6) (hf : f < F) : ∀ (k i pt : Nat) (h : PH), i ≤ (qAll F T).length → 3072 < k + i → 1 ≤ pt → pt ≤ 61 → (∀ p, 1 ≤ p → p < pt → h.1 (24 + f) p = fOr (fgN F T f p) (qAll F T).length) → (∀ p, pt ≤ p → p ≤ 60 → i ≤ fgN F T f p) → AC F T (qAll F T) h → XC F T (qAll F T).length 0 (qAll F T) h → PF F T f (qAll F T) (h.1 37) → okV (F_X0_findForgetters_b13 N k (nI f) (nI pt) (nI i) h) (fun h' => (∀ p, 1 ≤ p → p ≤ 60 → h'.1 (24 + f) p = fOr (fgN F T f p) (qAll F T).length) ∧ h'.1 (24 + f) 0 = h.1 (24 + f) 0 ∧ fr [24 + f, 37, 38] h h') := by
  have G := qAll_G (T := T) hF0
  have XX := qAll_X (T := T) hF0 hF
  have ql := QD_le G.1 hF
  intro k
  induction k with
  | zero => intro i pt h h1 h2; omega
  | succ k ih =>
    intro i pt h h1 h2 p1 p2 I1 I2 A X H
    rw [F_X0_findForgetters_b13, A.1]
    have rest : (i = (qAll F T).length ∨ 60 < pt) → okV (F_X0_findForgetters_b77 N N (nI f) (nI pt) h) (fun h' => (∀ p, 1 ≤ p → p ≤ 60 → h'.1 (24 + f) p = fOr (fgN F T f p) (qAll F T).length) ∧ h'.1 (24 + f) 0 = h.1 (24 + f) 0 ∧ fr [24 + f, 37, 38] h h') := by
      intro c
      refine okV_m (ff77 (N := N) (by omega : f < 6) N pt h p2 (by omega)) (fun h' z => ⟨fun p a b => ?_, z.2.1 0 (by omega), fr_w z.2.2 (by simp)⟩)
      by_cases e : p < pt
      · rw [z.2.1 p e]; exact I1 p a e
      · rw [z.1 p (by omega) b]
        unfold fOr
        rw [if_neg (by have := I2 p (by omega) b; omega)]
    by_cases g : (qAll F T).length ≤ i
    · rw [if_pos (nI_le g (by omega))]
      exact rest (Or.inl (by omega))
    · rw [if_neg (nI_ge (by omega) (by omega))]
      by_cases g2 : 60 < pt
      · rw [if_pos ((l_lt_n 60 (by omega) (by omega)).mpr g2)]
        exact rest (Or.inr g2)
      · have hi : i < (qAll F T).length := by omega
        have x := XX i (f + 1) (by omega) hi (Or.inl hi)
        rw [if_neg (fun z => g2 ((l_lt_n 60 (by omega) (by omega)).mp z)), show (1 : Int32) + nI f = nI (f + 1) by rw [Int32.add_comm, nI_1], behind_x hF G A X hi (by omega), bI_s]
        obtain ⟨r, h6, e6, ⟨v, rfl, O⟩, H6, f6⟩ := ticks_x hN hF G XX (by omega : f < 6) A X H x
        rw [qIx_s x] at O
        rw [e6, bI_s, ib_e, show (1 : Int32) + nI v = nI (1 + v) from nI_add 1 v]
        obtain ⟨pt', h7, e7, a1, a2, a3, a4, a5, a6⟩ := ff44 (N := N) (rc := F_X0_findForgetters_b13 N k) (i := i) (by omega : f < 6) O (by omega) N pt h6 p2 (by omega)
        rw [e7]
        unfold F_X0_findForgetters_b71
        rw [ib_e, nI_1]
        have f7 : fr [24 + f, 37, 38] h h7 := fr_t (fr_w f6 (by simp)) (fr_w a6 (by simp))
        have c24 : ∀ p, p < pt ∨ pt' ≤ p → h7.1 (24 + f) p = h.1 (24 + f) p := fun p z => by rw [a4 p z, f6 (24 + f) (by simp; omega)]
        refine okV_m (ih (i + 1) pt' h7 (by omega) (by omega) (by omega) a2 (fun p z1 z2 => ?_) (fun p z1 z2 => ?_) (AC_q A (fun a b c => congrFun (f7 a (by simp; omega)) b)) (fun a b c d e => by rw [f7 36 (by simp; omega)]; exact X a b c d e) (by rw [a6 37 (by simp; omega)]; exact H6)) (fun h' z => ⟨z.1, ?_, fr_t f7 z.2.2⟩)
        · by_cases e : p < pt
          · rw [c24 p (Or.inl e)]; exact I1 p z1 e
          · obtain ⟨b1, b2⟩ := a3 p (by omega) z2
            have l1 := I2 p (by omega) (by omega)
            have e : fgN F T f p = i := by
              by_cases y : i < fgN F T f p
              · rw [fg_n y] at b2; cases b2
              · omega
            rw [b1]
            unfold fOr
            rw [e, if_pos hi]
        · have l1 := I2 p (by omega) z2
          by_cases y : fgN F T f p = i
          · have t := fg_y (F := F) (T := T) (f := f) (p := p) (by omega)
            rw [y] at t
            have := frg_le (F := F) (T := T) (f := f) z1 _ t
            rw [a5 (by omega)] at this
            cases this
          · omega
        · rw [z.2.1, c24 0 (by omega)]
def EzS : List Nat := EyS ++ [37, 38]
theorem forgetter_x {p : Nat} {h : PH} (hN : 5000 ≤ N) (hF0 : 0 < F) (hF : F ≤ 6) (hf : f < F) (hp1 : 1 ≤ p) (hp : p ≤ 60) (L : LnT T nv h) (C : HC F h) (A : AtC F T h) : okI (F_X0_forgetterOf N (nI f) (nI p) h) (fun v h' => v = fOr (fgN F T f p) (qAll F T).length ∧ AtK F T h' ∧ fq EzS ExK h h') := by
  unfold F_X0_forgetterOf
  obtain ⟨h1, e1, K, f1⟩ := explore_x hN hF0 hF L C A
  have f1' : fq EzS ExK h h1 := fq_w f1 (fun k z => List.mem_append_left _ z) (fun q z => Or.inl z)
  have b54 : ∀ k : PH, F_X0_forgetterOf_b54 N (nI f) (nI p) k = some (k.1 (24 + f) p, k) := by
    intro k
    unfold F_X0_forgetterOf_b54
    rw [if_pos (nI_in0 (by omega) (by omega)), if_pos (nI_in0 (by omega) (by omega)), nI_clamp (by omega), nI_clamp (by omega)]
  rw [e1, bV_s, if_neg (nI_pos (by omega)), if_neg (fun z => by have := (l_le_n 6 (by omega) (by omega)).mp z; omega), if_neg (fun z => by have := (n_lt_l 1 (by omega) (by omega)).mp z; omega), if_pos ((n_le_l 60 (by omega) (by omega)).mpr hp), if_pos (nI_in0 (by omega) (by omega)), if_pos (by decide), nI_clamp (by omega), show (0 : Int32).toNatClampNeg = 0 from rfl]
  obtain ⟨k1, k2, k3, k4, k5⟩ := K
  by_cases g : h1.1 (24 + f) 0 = -2
  · rw [if_pos g, if_pos (nI_in0 (by omega) (by omega)), if_pos (by decide), hb_e]
    unfold F_X0_findForgetters
    rw [hb_e]
    generalize hk : hfill (hs h1 (24 + f) 0 (-1)) 37 3072 (-2) = h2
    have G := qAll_G (T := T) hF0
    have ql := QD_le G.1 hF
    have f2 : fr [24 + f, 37, 38] h1 h2 := by rw [← hk]; exact fr_f (fr_s fr_0 (by simp)) (by simp)
    have c0 : h2.1 (24 + f) 0 = -1 := by rw [← hk, hf_1, if_neg (by omega)]; simp [hs_1]
    have w : ∀ {a b : PH}, fr [24 + f, 37, 38] a b → fq EzS ExK a b := fun z => fq_w (fq_fr (K := []) z) (by
      intro c hc
      simp [EzS, EyS] at hc ⊢
      omega) (by simp)
    obtain ⟨h3, e3, r1, r2, f3⟩ := ff13 (T := T) hN hF0 hF hf N 0 1 h2 (by omega) (by omega) (by omega) (by omega) (fun p a b => by omega) (fun p a b => by omega) (AC_q k2 (fun a b c => congrFun (f2 a (by simp; omega)) b)) (fun a b c d e => by rw [f2 36 (by simp; omega)]; exact k3 a b c d e) (fun i hi => Or.inl (by rw [← hk, hf_1, if_pos rfl, if_pos (by omega)]))
    rw [show F_X0_findForgetters_b13 N N (nI f) 1 0 h2 = _ from e3, bV_s, b54]
    have f13 := fr_t f2 f3
    refine okI_s ⟨r1 p hp1 hp, ⟨by rw [f13 21 (by simp; omega)]; exact k1, AC_q k2 (fun a b c => congrFun (f13 a (by simp; omega)) b), fun a b c d e => by rw [f13 36 (by simp; omega)]; exact k3 a b c d e, fun l hl => by rw [f13 22 (by simp; omega)]; exact k4 l hl, fun f2 hf2 => ?_⟩, fq_t f1' (w f13)⟩
    by_cases y : f2 = f
    · subst y
      exact Or.inr ⟨by rw [r2]; exact c0, r1⟩
    · rw [f13 (24 + f2) (by simp; omega)]
      exact k5 f2 hf2
  · rw [if_neg g, b54]
    rcases k5 f hf with z | z
    · exact absurd z g
    · exact okI_s ⟨z.2 p hp1 hp, ⟨k1, k2, k3, k4, k5⟩, f1'⟩
/-! the reference's -/
variable {q : List ((Nat × Nat × Nat) × Nat × Nat × Nat)}
theorem fo61 {p i : Nat} {h : PH} {rc : Int32 → Int32 → Int32 → PH → Option (Int32 × PH)} (hF : F ≤ 6) (G : QG F q) (XX : XF F T q.length 0 q) (X : XM F T q.length 0 q h) (hf : f < F) (hp : p ≤ 60) : ∀ (k x c : Nat), c < q.length → 1 ≤ x → x ≤ p → p < k + x → F_X12_forgotten_b61 N rc k (nI f) (nI p) (nI i) (nI (msN (qS q c))) (if opn (qS q c) f = true then 1 else 0) (nI x) h = if frg F T f (p + 1 - x) (qS q c) = true then F_X12_forgotten_b119 N (nI i) h else rc (nI f) (nI p) (nI (i + 1)) h := by
  intro k
  induction k with
  | zero => intro x c hc h1 h2 h3; omega
  | succ k ih =>
    intro x c hc h1 h2 h3
    rw [F_X12_forgotten_b61]
    obtain ⟨r, hr⟩ : ∃ r, p + 1 - x = r + 1 := ⟨p - x, by omega⟩
    rw [hr, frg_s]
    have b114 : ∀ b : Bool, F_X12_forgotten_b114 N rc (nI f) (nI p) (nI i) (if b = true then 1 else 0) h = if b = true then rc (nI f) (nI p) (nI (i + 1)) h else F_X12_forgotten_b119 N (nI i) h := by
      intro b
      unfold F_X12_forgotten_b114
      rw [ib_e, nI_1]
      cases b <;> rfl
    have o := G.1.1 c hc
    have ml := ms_lt o hF
    by_cases g : p ≤ x
    · obtain rfl : r = 0 := by omega
      rw [if_pos (nI_le g (by omega)), b114]
      cases opn (qS q c) f <;> rfl
    · rw [if_neg (nI_ge (by omega) (by omega))]
      cases hb1 : opn (qS q c) f with
      | true =>
        have := b114 true
        rw [if_neg (by decide)]
        rw [this]
        rfl
      | false =>
        have o2 := (nxt_ok (F := F) (T := T) (s := qS q c) (j := 0) o).1
        have e := X c 0 (by omega) hc (Or.inl hc)
        rw [Nat.add_zero] at e
        rw [if_pos (by decide), show (7 : Int32) = nI 7 from rfl, pk_mul, if_pos (nI_in0 (by omega) (by omega)), nI_clamp (by omega), e, ib_e, openM o2 hF, bI_s, floorM o2 hF, bI_s, ← nb_s XX hc]
        have o3 := G.1.1 _ (nb_lt XX hc)
        have := ih (x + 1) (nb F T q c) (nb_lt XX hc) (by omega) (by omega) (by omega)
        rw [show p + 1 - (x + 1) = r by omega] at this
        rw [show (!false && frg F T f r (qS q (nb F T q c))) = frg F T f r (qS q (nb F T q c)) from rfl, ← this]
        unfold F_X12_forgotten_b105 F_X12_forgotten_b106
        rw [ib_e, nI_1]
        unfold opn
        have y1 := o3.2.1
        have y2 := o3.2.2
        by_cases z : (qS q (nb F T q c)).2.2 = 0
        · rw [if_pos (by rw [z]; rfl), if_neg (by simp [z])]
        · rw [if_neg (fun y => z ((n_eq_l 0 (by omega) (by omega)).mp y))]
          by_cases z2 : (qS q (nb F T q c)).2.1 = f
          · rw [if_pos (by rw [z2]), if_pos (by simp [z2]; omega)]; rfl
          · rw [if_neg (fun y => z2 ((nI_eq (by omega) (by omega)).mp y)), if_neg (by simp [z2])]
theorem fo6 {p : Nat} {h : PH} (hN : 5000 ≤ N) (hF0 : 0 < F) (hF : F ≤ 6) (hf : f < F) (hp1 : 1 ≤ p) (hp : p ≤ 60) (A : AM F T (qAll F T) h) (X : XM F T (qAll F T).length 0 (qAll F T) h) : ∀ (k i : Nat), i ≤ (qAll F T).length → 3072 < k + i → i ≤ fgN F T f p → F_X12_forgotten_b6 N k (nI f) (nI p) (nI i) h = some (if fgN F T f p < (qAll F T).length then nI (msN (qS (qAll F T) (fgN F T f p))) else -1, h) := by
  have G := qAll_G (T := T) hF0
  have XX := qAll_X (T := T) hF0 hF
  have ql := QD_le G.1 hF
  intro k
  induction k with
  | zero => intro i h1 h2; omega
  | succ k ih =>
    intro i h1 h2 h3
    have fl := fg_le (F := F) (T := T) (f := f) (p := p)
    rw [F_X12_forgotten_b6, A.1]
    by_cases g : (qAll F T).length ≤ i
    · rw [if_pos (nI_le g (by omega)), if_neg (by omega)]
    · have hi : i < (qAll F T).length := by omega
      have o := G.1.1 i hi
      have ml := ms_lt o hF
      have x := XX i (f + 1) (by omega) hi (Or.inl hi)
      have e := X i (f + 1) (by omega) hi (Or.inl hi)
      have o2 := (nxt_ok (F := F) (T := T) (s := qS (qAll F T) i) (j := f + 1) o).1
      rw [if_neg (nI_ge hi (by omega)), if_pos (nI_in0 (by omega) (by omega)), nI_clamp (show i < 2 ^ 31 by omega), (A.2.1 i hi).1, show (7 : Int32) = nI 7 from rfl, pk_mul, nI_1, nI_add, if_pos (nI_in0 (by omega) (by omega)), nI_clamp (by omega), show 7 * msN (qS (qAll F T) i) + 1 + f = 7 * msN (qS (qAll F T) i) + (f + 1) by omega, e, ib_e, openM o2 hF, bI_s, floorM o2 hF, bI_s]
      have := fo61 (N := N) (p := p) (i := i) (rc := F_X12_forgotten_b6 N k) hF G XX X hf hp N 1 _ x (by omega) hp1 (by omega)
      rw [qIx_s x, show p + 1 - 1 = p by omega] at this
      have b56 : (if nI (nxt F T (qS (qAll F T) i) (f + 1)).1.2.2 = 0 then F_X12_forgotten_b55 N (F_X12_forgotten_b6 N k) (nI f) (nI p) (nI i) (nI (msN (nxt F T (qS (qAll F T) i) (f + 1)).1)) h else if nI (nxt F T (qS (qAll F T) i) (f + 1)).1.2.1 = nI f then F_X12_forgotten_b56 N (F_X12_forgotten_b6 N k) (nI f) (nI p) (nI i) (nI (msN (nxt F T (qS (qAll F T) i) (f + 1)).1)) 1 h else F_X12_forgotten_b55 N (F_X12_forgotten_b6 N k) (nI f) (nI p) (nI i) (nI (msN (nxt F T (qS (qAll F T) i) (f + 1)).1)) h) = F_X12_forgotten_b61 N (F_X12_forgotten_b6 N k) N (nI f) (nI p) (nI i) (nI (msN (nxt F T (qS (qAll F T) i) (f + 1)).1)) (if opn (nxt F T (qS (qAll F T) i) (f + 1)).1 f = true then 1 else 0) (nI 1) h := by
        unfold F_X12_forgotten_b55 F_X12_forgotten_b56 opn
        have y1 := o2.2.1
        have y2 := o2.2.2
        by_cases z : (nxt F T (qS (qAll F T) i) (f + 1)).1.2.2 = 0
        · rw [if_pos (by rw [z]; rfl), if_neg (by simp [z])]; rfl
        · rw [if_neg (fun y => z ((n_eq_l 0 (by omega) (by omega)).mp y))]
          by_cases z2 : (nxt F T (qS (qAll F T) i) (f + 1)).1.2.1 = f
          · rw [if_pos (by rw [z2]), if_pos (by simp [z2]; omega)]; rfl
          · rw [if_neg (fun y => z2 ((nI_eq (by omega) (by omega)).mp y)), if_neg (by simp [z2])]; rfl
      rw [b56, this]
      by_cases z : frg F T f p (nxt F T (qS (qAll F T) i) (f + 1)).1 = true
      · have im : fgN F T f p = i := by
          by_cases y : i < fgN F T f p
          · rw [fg_n y] at z; cases z
          · omega
        rw [if_pos z, im, if_pos hi]
        unfold F_X12_forgotten_b119
        rw [if_pos (nI_in0 (by omega) (by omega)), nI_clamp (by omega), (A.2.1 i hi).1]
      · rw [if_neg z]
        refine ih (i + 1) (by omega) (by omega) ?_
        by_cases y : fgN F T f p = i
        · have t := fg_y (F := F) (T := T) (f := f) (p := p) (by omega)
          rw [y] at t
          exact absurd t z
        · omega
theorem forgotten_x {p : Nat} {h : PH} (hN : 5000 ≤ N) (hF0 : 0 < F) (hF : F ≤ 6) (hf : f < F) (hp1 : 1 ≤ p) (hp : p ≤ 60) (L : LnT T nv h) (C : HM F h) (A : AuM F T h) : okI (F_X12_forgotten N (nI f) (nI p) h) (fun v h' => v = (if fgN F T f p < (qAll F T).length then nI (msN (qS (qAll F T) (fgN F T f p))) else -1) ∧ AuK F T h' ∧ fq GtS GtK h h') := by
  unfold F_X12_forgotten
  obtain ⟨h1, e1, K, f1⟩ := goes_x hN hF0 hF L C A
  rw [e1, bV_s, show F_X12_forgotten_b6 N N (nI f) (nI p) 0 h1 = _ from fo6 hN hF0 hF hf hp1 hp K.2.1 K.2.2 N 0 (by omega) (by omega) (by omega)]
  exact okI_s ⟨rfl, K, f1⟩
end
