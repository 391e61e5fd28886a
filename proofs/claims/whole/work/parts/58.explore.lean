/-! the whole search on both sides -/
def EyS : List Nat := [22, 24, 25, 26, 27, 28, 29] ++ ExS
section
variable {F N nv : Nat} {T : Nat → Int32 → Bool} {q : List ((Nat × Nat × Nat) × Nat × Nat × Nat)}
theorem LnT_ey {h h' : PH} (L : LnT T nv h) (f : fq EyS ExK h h') : LnT T nv h' := LnT_q L (fun a b p => f a b (by unfold LnP at p; simp [EyS, ExS, FdS]; omega) (by unfold LnP at p; simp [ExK, FdK]; omega))
theorem HC_ey {h h' : PH} (L : HC F h) (f : fq EyS ExK h h') : HC F h' := by
  unfold HC
  rw [f 14 1 (by simp [EyS, ExS, FdS]) (by simp [ExK, FdK])]
  exact L
theorem ex27 : ∀ (k i : Nat) (h : PH), i ≤ 6 → 6 < k + i → ∃ h', F_X0_explore_b27 N k (nI i) h = F_X0_explore_b49 N h' ∧ (∀ f, i ≤ f → f < 6 → h'.1 (24 + f) 0 = -2) ∧ (∀ f, f < i → h'.1 (24 + f) = h.1 (24 + f)) ∧ fr [24, 25, 26, 27, 28, 29] h h' := by
  intro k
  induction k with
  | zero => intro i h h1 h2; omega
  | succ k ih =>
    intro i h h1 h2
    rw [F_X0_explore_b27]
    by_cases g : i = 6
    · subst g
      rw [if_pos (by decide)]
      exact ⟨h, rfl, fun f a b => by omega, fun _ _ => rfl, fr_0⟩
    · rw [if_neg (fun z => by have := (l_le_n 6 (by omega) (by omega)).mp z; omega), if_pos (nI_in0 (by omega) (by omega)), if_pos (by decide), nI_clamp (by omega), hb_e, ib_e, nI_1]
      obtain ⟨h', e1, q1, q2, q3⟩ := ih (i + 1) (hs h (24 + i) (0 : Int32).toNatClampNeg (-2)) (by omega) (by omega)
      refine ⟨h', e1, fun f a b => ?_, fun f a => ?_, fr_t (fr_s fr_0 (by simp; omega)) q3⟩
      · by_cases z : f = i
        · subst z
          rw [q2 f (by omega), hs_1, if_pos rfl, if_pos (by decide)]
        · exact q1 f (by omega) b
      · rw [q2 f (by omega), hs_o (by omega)]
theorem explore_0 {h : PH} (hN : 5000 ≤ N) (hF0 : 0 < F) (hF : F ≤ 6) (L : LnT T nv h) (C : HC F h) (hk : h.1 21 12 = 0) : okV (F_X0_explore N h) (fun h' => AC F T (qAll F T) h' ∧ XC F T (qAll F T).length 0 (qAll F T) h' ∧ XF F T (qAll F T).length 0 (qAll F T) ∧ h'.1 21 12 = 1 ∧ (∀ l, l < 6 → h'.1 22 l = -2) ∧ (∀ f, f < 6 → h'.1 (24 + f) 0 = -2) ∧ fq EyS ExK h h') := by
  unfold F_X0_explore
  rw [if_pos hk, hb_e, hb_e]
  obtain ⟨h1, e1, a1, -, f1⟩ := ex27 (N := N) N 0 (hfill (hfill h 31 4096 (-1)) 22 6 (-2)) (by omega) (by omega)
  rw [show F_X0_explore_b27 N N 0 (hfill (hfill h 31 4096 (-1)) 22 6 (-2)) = _ from e1]
  have g1 : fq EyS ExK h h1 := fq_t (fq_f (fq_f fq_0 (by decide)) (by decide)) (fq_w (fq_fr (K := []) f1) (by simp [EyS]) (by simp))
  have b22 : ∀ l, l < 6 → h1.1 22 l = -2 := fun l hl => by rw [f1 22 (by simp), hf_1, if_pos rfl, if_pos hl]
  have b31 : ∀ c, c < 4096 → h1.1 31 c = -1 := fun c hc => by rw [f1 31 (by simp), hf_1, if_neg (by decide), hf_1, if_pos rfl, if_pos hc]
  unfold F_X0_explore_b49
  rw [hb_e]
  have g2 : fq EyS ExK h (hs h1 21 13 0) := fq_s g1 (Or.inr (by decide))
  have A0 : AC F T [] (hs h1 21 13 0) := ⟨by simp [hs_1, nI_0], fun i hi => by simp at hi, fun s o => by
    rw [if_neg (by simp), hs_1, if_neg (by decide)]
    exact b31 _ (cs_lt o hF)⟩
  obtain ⟨v, h3, e3, -, A3, f3⟩ := find_x (s := (0, 0, 0)) (p := 0) (j := 0) hN hF (LnT_ey L g2) A0 ⟨fun i hi => by simp at hi, fun i j _ hj => by simp at hj⟩ ⟨by decide, hF0, by decide⟩ (fun z => by simp at z)
  rw [show F_X0_find N 0 (-1) 0 (hs h1 21 13 0) = _ from e3, bI_s]
  rw [show bAdd [] (0, 0, 0) 0 0 (if ([] : List ((Nat × Nat × Nat) × Nat × Nat × Nat)).length = 0 then 0 else qD [] 0 + 1) = q0 from rfl] at A3
  have g3 : fq EyS ExK h h3 := fq_t g2 (fq_w f3 (by simp [EyS, ExS, FdS]) (by simp [ExK, FdK]))
  refine okV_m (ex64 (N := N) (T := T) hN hF N 0 3073 q0 h3 (by omega) (by omega) (by omega) (QG_0 hF0) (LnT_ey L g3) (HC_ey C g3) A3 (fun a b hb ha c => by omega) (fun a b hb ha c => by omega)) (fun k z => ⟨z.1, z.2.1, z.2.2.1, z.2.2.2.1, fun l hl => ?_, fun f hf => ?_, fq_t g3 (fq_w z.2.2.2.2 (by simp [EyS, ExS, FdS]) (fun q y => Or.inl y))⟩)
  · rw [z.2.2.2.2 22 l (by simp [ExS, FdS]) (by simp [ExK, FdK]), f3 22 l (by simp [FdS]) (by simp [FdK]), hs_1, if_neg (by decide)]
    exact b22 l hl
  · rw [z.2.2.2.2 (24 + f) 0 (by simp [ExS, FdS]; omega) (by simp [ExK, FdK]), f3 (24 + f) 0 (by simp [FdS]; omega) (by simp [FdK]), hs_1, if_neg (by omega)]
    exact a1 f (by omega) hf
/-! the reference's -/
def GtS : List Nat := 129 :: MtS
def GtK : List (Nat × Nat) := (103, 37) :: MtK
theorem LnT_gt {h h' : PH} (L : LnT T nv h) (f : fq GtS GtK h h') : LnT T nv h' := LnT_q L (fun a b p => f a b (by unfold LnP at p; simp [GtS, MtS, MvS]; omega) (by unfold LnP at p; simp [GtK, MtK]; omega))
theorem HM_gt {h h' : PH} (L : HM F h) (f : fq GtS GtK h h') : HM F h' := by
  unfold HM
  rw [f 103 1 (by simp [GtS, MtS, MvS]) (by simp [GtK, MtK])]
  exact L
theorem gW {h h' : PH} (f : fq GtS MtK h h') : fq GtS GtK h h' := fq_w f (fun k z => z) (fun q y => Or.inl (List.mem_cons_of_mem _ y))
theorem gt67 {i : Nat} (hN : 5000 ≤ N) (hF : F ≤ 6) (G : QG F q) (hi : i < q.length) {rc : Int32 → PH → Option PH} : ∀ (fu j : Nat) (h : PH), j ≤ F + 1 → F + 1 < fu + j → LnT T nv h → HM F h → AM F T (bIn F T i j q) h → XM F T i j (bIn F T i j q) h → ∃ h', F_X12_goesThrough_b67 N rc fu (nI i) (nI (msN (qS q i))) (bu j) h = F_X12_goesThrough_b120 N rc (nI i) h' ∧ AM F T (bIn F T i (F + 1) q) h' ∧ XM F T i (F + 1) (bIn F T i (F + 1) q) h' ∧ fq GtS MtK h h' := by
  intro fu
  induction fu with
  | zero => intro j h h1 h2; omega
  | succ fu ih =>
    intro j h h1 h2 L C A X
    rw [F_X12_goesThrough_b67, C]
    by_cases g : j = F + 1
    · subst g
      rw [if_pos (show nI F ≤ bu (F + 1) from nI_le (Nat.le_refl _) (by omega))]
      exact ⟨h, rfl, A, X, fq_0⟩
    · have nb : ¬ nI F ≤ bu j := by
        cases j with
        | zero => exact fun z => absurd (Int32.le_trans (nI_pos' (n := F) (by omega)) z) (by decide)
        | succ j => exact nI_ge (by omega) (by omega)
      obtain ⟨G1, E1⟩ := bIn_ok (T := T) G hi j h1
      have hi1 : i < (bIn F T i j q).length := Nat.lt_of_lt_of_le hi E1.1
      have ql := QD_le G1.1 hF
      have eq1 : bIn F T i (j + 1) q = bAdd (bIn F T i j q) (nxt F T (qS (bIn F T i j q) i) j).1 i j (qD (bIn F T i j q) i + 1) := rfl
      have sq : qS q i = qS (bIn F T i j q) i := (Ext_S E1 hi).symm
      rw [if_neg nb, sq]
      rw [sq] at ih
      generalize bIn F T i j q = qq at A X G1 hi1 ql eq1 sq ih ⊢
      have o := G1.1.1 i hi1
      have o2 : OkS F (nxt F T (qS qq i) j).1 := (nxt_ok o).1
      have ml := ms_lt o hF
      have ml2 := ms_lt o2 hF
      obtain ⟨v, h3, e3, rfl, -, f3⟩ := behindM hN L C o hF (by omega : j ≤ F)
      rw [e3, bI_s, show (7 : Int32) = nI 7 from rfl, pk_mul, Int32.add_assoc, bu_1, nI_add, if_pos (nI_in0 (by omega) (by omega)), nI_clamp (by omega), hb_e, if_pos (nI_in0 (by omega) (by omega)), nI_clamp (by omega)]
      have f3' : fq GtS MtK h (hs h3 129 (7 * msN (qS qq i) + j) (nI (msN (nxt F T (qS qq i) j).1))) := fq_s (fq_w f3 (by simp [GtS, MtS, MvS]) (by simp [MtK, MvK])) (Or.inl (by decide))
      have A3 : AM F T qq (hs h3 129 (7 * msN (qS qq i) + j) (nI (msN (nxt F T (qS qq i) j).1))) := AM_q A (fun a b z => by
        rw [hs_1, if_neg (by omega)]
        exact f3 a b (by simp [MvS]; omega) (by simp [MvK]; omega))
      have e127 : (hs h3 129 (7 * msN (qS qq i) + j) (nI (msN (nxt F T (qS qq i) j).1))).1 127 (msN (qS qq i)) = nI (qD qq i) := (A3.2.1 i hi1).2.2.2.1
      rw [e127, nI_1]
      obtain ⟨h4, e4, A4, f4⟩ := meets_x (j := j) (p := i) hN hF (LnT_gt L (gW f3')) A3 G1.1 (fun i h1 h2 => (G1.2.1 i h1 h2).1) o2 (fun _ => hi1) (qD qq i + 1)
      have nz : ¬ qq.length = 0 := by omega
      rw [if_neg nz] at e4
      rw [e4, bV_s, ib_e, show nI j = bu (j + 1) from rfl]
      have f4' : fq GtS MtK h h4 := fq_t f3' (fq_w f4 (fun k z => List.mem_cons_of_mem _ z) (fun q y => Or.inl y))
      have E := Ext_add (q := qq) (s := (nxt F T (qS qq i) j).1) (p := i) (j := j) (d := qD qq i + 1)
      obtain ⟨h', q1, q2, q3, q4⟩ := ih (j + 1) h4 (by omega) (by omega) (LnT_gt L (gW f4')) (HM_gt C (gW f4')) (by
        rw [eq1]
        exact A4) (by
        rw [eq1]
        intro a b hb ha c
        have hal : a < qq.length := by omega
        rw [Ext_S E hal, f4 129 _ (by simp [MtS, MvS]) (by simp [MtK]), hs_1, if_pos rfl]
        by_cases y : a = i ∧ b = j
        · rw [y.1, y.2, if_pos rfl]
        · rw [if_neg (fun z => by
            have : msN (qS qq a) = msN (qS qq i) ∧ b = j := by omega
            have := ms_inj (G1.1.1 a hal) o hF this.1
            have : a = i := by
              have e1 := qIx_i G1.1 hal
              have e2 := qIx_i G1.1 hi1
              rw [this, e2] at e1
              exact e1.symm
            omega), f3 129 _ (by simp [MvS]) (by simp [MvK])]
          exact X a b hb hal (by omega))
      exact ⟨h', q1, q2, q3, fq_t f4' q4⟩
theorem gt50 (hN : 5000 ≤ N) (hF : F ≤ 6) : ∀ (k i m : Nat) (q : List ((Nat × Nat × Nat) × Nat × Nat × Nat)) (h : PH), i ≤ q.length → 3072 < k + i → 3072 < m + i → QG F q → LnT T nv h → HM F h → AM F T q h → XM F T i 0 q h → okV (F_X12_goesThrough_b50 N k (nI i) h) (fun h' => AM F T (bOut F T m i q) h' ∧ XM F T (bOut F T m i q).length 0 (bOut F T m i q) h' ∧ fq GtS MtK h h') := by
  intro k
  induction k with
  | zero => intro i m q h h1 h2 h3 G; have := QD_le G.1 hF; omega
  | succ k ih =>
    intro i m q h h1 h2 h3 G L C A X
    have ql := QD_le G.1 hF
    obtain ⟨m, rfl⟩ : ∃ m', m = m' + 1 := ⟨m - 1, by omega⟩
    rw [F_X12_goesThrough_b50, A.1]
    unfold bOut
    by_cases g : q.length ≤ i
    · obtain rfl : i = q.length := by omega
      rw [if_pos (nI_le (Nat.le_refl _) (by omega)), if_pos g]
      exact okV_s ⟨A, X, fq_0⟩
    · rw [if_neg (nI_ge (by omega) (by omega)), if_pos (nI_in0 (by omega) (by omega)), nI_clamp (by omega), (A.2.1 i (by omega)).1, ib_e, if_neg g]
      obtain ⟨h', e1, A1, X1, f1⟩ := gt67 (N := N) (T := T) (nv := nv) hN hF G (by omega : i < q.length) (rc := F_X12_goesThrough_b50 N k) N 0 h (by omega) (by omega) L C A (fun a b hb ha c => X a b hb ha (by omega))
      obtain ⟨G1, E1⟩ := bIn_ok (T := T) G (by omega : i < q.length) (F + 1) (Nat.le_refl _)
      rw [show F_X12_goesThrough_b67 N (F_X12_goesThrough_b50 N k) N (nI i) (nI (msN (qS q i))) (-1) h = _ from e1]
      unfold F_X12_goesThrough_b120
      rw [ib_e, nI_1]
      refine okV_m (ih (i + 1) m _ h' (by have := E1.1; omega) (by omega) (by omega) G1 (LnT_gt L (gW f1)) (HM_gt C (gW f1)) A1 (fun a b hb ha c => X1 a b hb ha (by omega))) (fun k2 z => ⟨z.1, z.2.1, fq_t f1 z.2.2⟩)
theorem gt20 : ∀ (k i : Nat) (h : PH), i ≤ 3072 → 3072 < k + i → ∃ h', F_X12_goesThrough_b20 N k (nI i) h = F_X12_goesThrough_b40 N h' ∧ (∀ t, i ≤ t → t < 3072 → h'.1 128 t = 0) ∧ (∀ t, t < i → h'.1 128 t = h.1 128 t) ∧ fr [128] h h' := by
  intro k
  induction k with
  | zero => intro i h h1 h2; omega
  | succ k ih =>
    intro i h h1 h2
    rw [F_X12_goesThrough_b20]
    by_cases g : i = 3072
    · subst g
      rw [if_pos (by decide)]
      exact ⟨h, rfl, fun t a b => by omega, fun _ _ => rfl, fr_0⟩
    · rw [if_neg (fun z => by have := (l_le_n 3072 (by omega) (by omega)).mp z; omega), if_pos (nI_in0 (by omega) (by omega)), nI_clamp (by omega), hb_e, ib_e, nI_1, show vp_nar .boolean (0 : Int32) = 0 from by decide]
      obtain ⟨h', e1, q1, q2, q3⟩ := ih (i + 1) (hs h 128 i 0) (by omega) (by omega)
      refine ⟨h', e1, fun t a b => ?_, fun t a => ?_, fr_t (fr_s fr_0 (by simp)) q3⟩
      · by_cases z : t = i
        · rw [q2 t (by omega), z]; simp [hs_1]
        · exact q1 t (by omega) b
      · rw [q2 t (by omega), hs_1, if_pos rfl, if_neg (by omega)]
theorem goes_0 {h : PH} (hN : 5000 ≤ N) (hF0 : 0 < F) (hF : F ≤ 6) (L : LnT T nv h) (C : HM F h) (hk : h.1 103 37 = 0) : okV (F_X12_goesThrough N h) (fun h' => AM F T (qAll F T) h' ∧ XM F T (qAll F T).length 0 (qAll F T) h' ∧ h'.1 103 37 = 1 ∧ fq GtS GtK h h') := by
  unfold F_X12_goesThrough
  rw [if_pos hk, hb_e, hb_e]
  obtain ⟨h1, e1, a1, -, f1⟩ := gt20 (N := N) N 0 (hs (hs h 103 37 1) 103 38 0) (by omega) (by omega)
  rw [show F_X12_goesThrough_b20 N N 0 (hs (hs h 103 37 1) 103 38 0) = _ from e1]
  have g1 : fq GtS GtK h h1 := fq_t (fq_s (fq_s fq_0 (Or.inr (by decide))) (Or.inr (by decide))) (fq_w (fq_fr (K := []) f1) (by simp [GtS, MtS]) (by simp))
  unfold F_X12_goesThrough_b40
  have A0 : AM F T [] h1 := ⟨by rw [f1 103 (by simp)]; simp [hs_1, nI_0], fun i hi => by simp at hi, fun s o => by
    rw [if_neg (by simp)]
    exact a1 _ (Nat.zero_le _) (ms_lt o hF)⟩
  obtain ⟨h3, e3, A3, f3⟩ := meets_x (s := (0, 0, 0)) (p := 0) (j := 0) hN hF (LnT_gt L g1) A0 ⟨fun i hi => by simp at hi, fun i j _ hj => by simp at hj⟩ (fun i _ hi => by simp at hi) ⟨by decide, hF0, by decide⟩ (fun z => by simp at z) 0
  rw [show F_X12_meets N 0 (-1) (-1) 0 h1 = _ from e3, bV_s]
  rw [show bAdd [] (0, 0, 0) 0 0 0 = q0 from rfl] at A3
  have g3 : fq GtS GtK h h3 := fq_t g1 (fq_w f3 (fun k z => List.mem_cons_of_mem _ z) (by simp [GtK, MtK]))
  refine okV_m (gt50 (N := N) (T := T) hN hF N 0 3073 q0 h3 (by omega) (by omega) (by omega) (QG_0 hF0) (LnT_gt L g3) (HM_gt C g3) A3 (fun a b hb ha c => by omega)) (fun k z => ⟨z.1, z.2.1, ?_, fq_t g3 (gW z.2.2)⟩)
  rw [z.2.2 103 37 (by simp [GtS, MtS, MvS]) (by simp [MtK]), f3 103 37 (by simp [MtS, MvS]) (by simp [MtK]), f1 103 (by simp)]
  simp [hs_1]
end
