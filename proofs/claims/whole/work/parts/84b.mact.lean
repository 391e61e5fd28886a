/-! what a car does, in the reference -/
section
variable {q : Nat → Nat} {u : Nat → Nat → Nat} {v : (Nat → Int32) → Int32} {way : Int32} {S : TSt} {b : Bool} {t : Nat} {h h' h2 : PH}
theorem TrM_p {c j : Nat} {x : Int32} (hc : c < 2) (hj : j < 5) (T : TrM b S h) : TrM b (su S (4 + c) j x) (hs h 148 (5 * c + j) x) := by
  obtain ⟨t1, t2, t3⟩ := T
  refine ⟨fun i hi => ?_, fun k hk => ?_, fun k hk l hl => ?_⟩
  · rw [hs_o (by decide), hs_o (by decide), hs_o (by decide), su_o (by omega), su_o (by omega), su_o (by omega)]; exact t1 i hi
  · rw [hs_o (by decide), hs_o (by decide), hs_o (by decide), hs_o (by decide), su_o (by omega), su_o (by omega), su_o (by omega), su_o (by omega)]; exact t2 k hk
  · rw [hs_1, if_pos rfl, su_e]
    by_cases e : k = c
    · subst e
      rw [if_pos rfl]
      by_cases e2 : l = j
      · rw [if_pos e2, if_pos (by omega)]
      · rw [if_neg e2, if_neg (by omega)]; exact t3 k hk l hl
    · rw [if_neg (by omega : ¬ 4 + k = 4 + c), if_neg (by omega)]; exact t3 k hk l hl
theorem TrM_7 {c : Nat} {x : Int32} (T : TrM false S h) : TrM false S (hs h 146 c x) := by
  obtain ⟨t1, t2, t3⟩ := T
  refine ⟨fun i hi => ?_, fun k hk => ?_, fun k hk l hl => ?_⟩
  · rw [hs_o (by decide), hs_o (by decide), hs_o (by decide)]; exact t1 i hi
  · rw [hs_o (by decide), hs_o (by decide), hs_o (by decide)]
    exact ⟨(t2 k hk).1, (t2 k hk).2.1, (t2 k hk).2.2.1, fun z => absurd z (by decide)⟩
  · rw [hs_o (by decide)]; exact t3 k hk l hl
theorem m_f (T : TrM b S h) (K : Sok q S) {c : Nat} (hc : c < 2) : h.1 145 c = nI (fl S c) := by rw [(T.2.1 c hc).1]; exact (K.1 c hc).2.1
theorem passM_x {c y : Nat} (hc : c < 2) (Q : Qok q u) (K : Sok q S) (T : TrM b S h) (hy : y < q 0) (hn : y ≠ fl S c) : okV (F_X12_passes (nI c) (nI y) h) (fun h' => TrM b (sMv S c y) h' ∧ MF h h') := by
  have q06 : q 0 ≤ 6 := Q.2.1
  have fy := (K.1 c hc).1
  have key : okV (F_X12_passes_b20 (nI c) (nI y) (nI (min y (fl S c))) h) (fun h' => TrM b (sMv S c y) h' ∧ MF h h') := by
    unfold F_X12_passes_b20
    rw [show (5 : Int32) = nI 5 from rfl, pk_mul, nI_add, ib_e, if_pos (nI_in0 (by omega : 5 * c + min y (fl S c) < 10) (by omega)), nI_clamp (by omega), hb_e, if_pos (nI_in0 hc (by omega)), nI_clamp (by omega), hb_e, T.2.2 c hc (min y (fl S c)) (by omega)]
    exact okV_s ⟨TrM_s (k := 6) (by decide) (by decide) (by decide) (TrM_p hc (by omega) T), MF_s (MF_s MF_0 (by omega)) (by omega)⟩
  unfold F_X12_passes
  rw [if_pos (nI_in0 hc (by omega)), if_pos (nI_in0 hc (by omega)), nI_clamp (by omega), m_f T K hc]
  by_cases g : fl S c ≤ y
  · rw [if_pos (nI_le g (by omega))]
    rw [show min y (fl S c) = fl S c by omega] at key
    exact key
  · rw [if_neg (nI_ge (by omega) (by omega))]
    rw [show min y (fl S c) = y by omega] at key
    exact key
theorem may_b7 {N c : Nat} (hN : 100 ≤ N) (hc : c < 2) (Q : Qok q u) (K : Sok q S) (P : PqM q u h) (T : TrM b S h) : ∀ m i fuel, i + m = q 5 → m < fuel → F_X12_mayStop_b7 N fuel (nI c) (nI (fb_ct (fun i => ins S c i && decide (u 2 i = fl S c)) i)) (if exn i (fun i => wtg S c i && decide (u 1 i = fl S c)) = true then 1 else 0) (nI i) h = some (if mst q u S c = true then 1 else 0, h) := by
  have q5 : q 5 ≤ 24 := Q.2.2.2.2.2.2.2.2.1
  have q2 : q 2 ≤ 8 := Q.2.2.2.2.2.1
  have q06 : q 0 ≤ 6 := Q.2.1
  have fy := (K.1 c hc).1
  have ll := (K.1 c hc).2.2.2.1
  intro m
  induction m with
  | zero =>
    intro i fuel e1 e2
    obtain ⟨fu, rfl⟩ : ∃ g, fuel = g + 1 := ⟨fuel - 1, by omega⟩
    have bd := fb_ct_le (fun i => ins S c i && decide (u 2 i = fl S c)) (q 5)
    rw [F_X12_mayStop_b7, P.2.2.2.2.2.1, if_pos (nI_le (by omega) (by omega)), show i = q 5 by omega]
    unfold F_X12_mayStop_b92 F_X12_mayStop_b112 F_X12_mayStop_b116 mst
    rw [loadM_x hN Q P T, bI_s, P.2.2.1]
    by_cases g1 : 0 < fb_ct (fun i => ins S c i && decide (u 2 i = fl S c)) (q 5)
    · rw [if_pos (show 0 < nI _ from nI_lt (a := 0) g1 (by omega)), show exn (q 5) (fun i => ins S c i && decide (u 2 i = fl S c)) = true from decide_eq_true g1]
      rfl
    · rw [if_neg (show ¬ 0 < nI _ from nI_nlt (b := _) (a := 0) (by omega) (by omega)), show exn (q 5) (fun i => ins S c i && decide (u 2 i = fl S c)) = false from decide_eq_false g1]
      by_cases g2 : exn (q 5) (fun i => wtg S c i && decide (u 1 i = fl S c)) = true
      · rw [if_pos g2, if_neg one10, g2]
        by_cases g3 : lod (q 5) S c < q 2
        · rw [if_neg (nI_ge g3 (by omega))]; simp [g3]
        · rw [if_pos (nI_le (by omega) (by omega))]; simp [g3]
      · rw [if_neg g2, if_pos rfl]; simp [g2]
  | succ m ih =>
    intro i fuel e1 e2
    obtain ⟨fu, rfl⟩ : ∃ g, fuel = g + 1 := ⟨fuel - 1, by omega⟩
    have ui := Q.2.2.2.2.2.2.2.2.2.2.2.1 i (by omega)
    have pi := P.2.2.2.2.2.2.2.2.1 i (by omega)
    have i1 := ih (i + 1) fu (by omega) (by omega)
    rw [fb_ct_succ, exn_s] at i1
    -- behind those inside
    have two : ∀ s0 : Nat, s0 = (if (ins S c i && decide (u 2 i = fl S c)) = true then 1 else 0) → F_X12_mayStop_b48 N (F_X12_mayStop_b7 N fu) (nI c) (if exn i (fun i => wtg S c i && decide (u 1 i = fl S c)) = true then 1 else 0) (nI i) (nI s0) (nI (fb_ct (fun i => ins S c i && decide (u 2 i = fl S c)) i)) h = some (if mst q u S c = true then 1 else 0, h) := fun s0 h0 => by
      unfold F_X12_mayStop_b48 F_X12_mayStop_b80 F_X12_mayStop_b84 F_X12_mayStop_b85
      simp only [ib_e, nI_1, nI_add]
      rw [h0]
      by_cases g1 : exn i (fun i => wtg S c i && decide (u 1 i = fl S c)) = true
      · rw [if_pos g1, if_neg one10]
        rw [g1] at i1
        exact i1
      · rw [if_neg g1, if_pos rfl, waiting_x T (by omega), bI_s]
        rw [show exn i (fun i => wtg S c i && decide (u 1 i = fl S c)) = false by simpa using g1] at i1
        by_cases g2 : wtg S c i = true
        · rw [if_pos g2, if_neg one10, if_pos (nI_in0 (by omega : i < 24) (by omega)), if_pos (nI_in0 hc (by omega)), nI_clamp (by omega), nI_clamp (by omega), pi.2.1, m_f T K hc]
          by_cases g3 : u 1 i = fl S c
          · rw [if_pos (by rw [g3])]
            simp [g2, g3] at i1 ⊢
            exact i1
          · rw [if_neg (fun z => g3 ((nI_eq (by omega) (by omega)).mp z))]
            simp [g2, g3] at i1 ⊢
            exact i1
        · rw [if_neg g2, if_pos rfl]
          simp [g2] at i1 ⊢
          exact i1
    rw [F_X12_mayStop_b7, P.2.2.2.2.2.1, if_neg (nI_ge (by omega) (by omega)), inside_x T (by omega), bI_s]
    unfold F_X12_mayStop_b47
    by_cases g : ins S c i = true
    · rw [if_pos g, if_neg one10, if_pos (nI_in0 (by omega : i < 24) (by omega)), if_pos (nI_in0 hc (by omega)), nI_clamp (by omega), nI_clamp (by omega), pi.2.2, m_f T K hc]
      by_cases g3 : u 2 i = fl S c
      · rw [if_pos (by rw [g3])]; exact two 1 (by simp [g, g3])
      · rw [if_neg (fun z => g3 ((nI_eq (by omega) (by omega)).mp z))]; exact two 0 (by simp [g3])
    · rw [if_neg g, if_pos rfl]; exact two 0 (by simp [g])
theorem mayStop_x {N c : Nat} (hN : 100 ≤ N) (hc : c < 2) (Q : Qok q u) (K : Sok q S) (P : PqM q u h) (T : TrM b S h) : F_X12_mayStop N (nI c) h = some (if mst q u S c = true then 1 else 0, h) := by
  have q5 : q 5 ≤ 24 := Q.2.2.2.2.2.2.2.2.1
  exact may_b7 hN hc Q K P T (q 5) 0 N (by omega) (by omega)
theorem let_lo {n i a : Nat} {W : Nat → Bool} (h : n ≤ i) : sLet n W t S a i = S a i := by
  unfold sLet
  rw [if_neg (fun z => by omega)]
theorem let_li {n i c : Nat} {W : Nat → Bool} (h : n ≤ i) : ins (sLet n W t S) c i = ins S c i := by
  unfold ins
  rw [let_lo h, let_lo h, let_lo h]
theorem stops_b2 {N c : Nat} {G : PH → Prop} (hc : c < 2) (ht : t < 900) (Q : Qok q u) (K : Sok q S) {h0 : PH} (P : PqM q u h0) (fin : ∀ h, TrM b (sOut q u c t S) h → MF h0 h → okV (F_X12_stopsAt_b47 N (nI c) (nI t) h) G) : ∀ m i fuel h, i + m = q 5 → m < fuel → TrM b (sLet i (fun i => ins S c i && decide (u 2 i = fl S c)) t S) h → MF h0 h → okV (F_X12_stopsAt_b2 N fuel (nI c) (nI t) (nI i) h) G := by
  have q5 : q 5 ≤ 24 := Q.2.2.2.2.2.2.2.2.1
  have q06 : q 0 ≤ 6 := Q.2.1
  have fy := (K.1 c hc).1
  intro m
  induction m with
  | zero =>
    intro i fuel h e1 e2 T f
    obtain ⟨fu, rfl⟩ : ∃ g, fuel = g + 1 := ⟨fuel - 1, by omega⟩
    have P' := PqM_t P f
    rw [F_X12_stopsAt_b2, P'.2.2.2.2.2.1, if_pos (nI_le (by omega) (by omega))]
    rw [show i = q 5 by omega] at T
    exact fin h T f
  | succ m ih =>
    intro i fuel h e1 e2 T f
    obtain ⟨fu, rfl⟩ : ∃ g, fuel = g + 1 := ⟨fuel - 1, by omega⟩
    have P' := PqM_t P f
    have pi := P'.2.2.2.2.2.2.2.2.1 i (by omega)
    have ui := Q.2.2.2.2.2.2.2.2.2.2.2.1 i (by omega)
    have f5 : h.1 145 c = nI (fl S c) := by rw [(T.2.1 c hc).1, let_o (by decide)]; exact (K.1 c hc).2.1
    rw [F_X12_stopsAt_b2, P'.2.2.2.2.2.1, if_neg (nI_ge (by omega) (by omega)), inside_x T (by omega), bI_s, let_li (Nat.le_refl _)]
    unfold F_X12_stopsAt_b41
    simp only [ib_e, nI_1]
    by_cases g : ins S c i = true
    · rw [if_pos g, if_neg one10, if_pos (nI_in0 (by omega : i < 24) (by omega)), if_pos (nI_in0 hc (by omega)), nI_clamp (by omega), nI_clamp (by omega), pi.2.2, f5, if_pos (nI_in0 (by omega : i < 24) (by omega)), hb_e]
      by_cases g2 : u 2 i = fl S c
      · rw [if_pos (by rw [g2])]
        refine ih (i + 1) fu (hs h 144 i (nI t)) (by omega) (by omega) ?_ (MF_s f (by omega))
        rw [← let_s1 (by simp [g, g2])]
        exact TrM_s (k := 2) (by decide) (by decide) (by decide) T
      · rw [if_neg (fun z => g2 ((nI_eq (by omega) (by omega)).mp z))]
        refine ih (i + 1) fu h (by omega) (by omega) ?_ f
        rw [← let_s0 (by simp [g2])]
        exact T
    · rw [if_neg g, if_pos rfl]
      refine ih (i + 1) fu h (by omega) (by omega) ?_ f
      rw [← let_s0 (by simp [g])]
      exact T
theorem stops_b56 {N c : Nat} (hc : c < 2) (ht : t < 900) (Q : Qok q u) (K : Sok q S) {h0 : PH} (P : PqM q u h0) : ∀ m i fuel h, i + m = q 5 → m < fuel → TrM b (sBrd q u c t i S) h → MF h0 h → okV (F_X12_stopsAt_b56 N fuel (nI c) (nI t) (nI (lod (q 5) (sBrd q u c t i S) c)) (nI i) h) (fun h' => TrM b (sDoor (q 3) c (sBrd q u c t (q 5) S)) h' ∧ MF h0 h') := by
  have q5 : q 5 ≤ 24 := Q.2.2.2.2.2.2.2.2.1
  have q2 : q 2 ≤ 8 := Q.2.2.2.2.2.1
  have q06 : q 0 ≤ 6 := Q.2.1
  have fy := (K.1 c hc).1
  intro m
  induction m with
  | zero =>
    intro i fuel h e1 e2 T f
    obtain ⟨fu, rfl⟩ : ∃ g, fuel = g + 1 := ⟨fuel - 1, by omega⟩
    have P' := PqM_t P f
    rw [F_X12_stopsAt_b56, P'.2.2.2.2.2.1, if_pos (nI_le (by omega) (by omega))]
    unfold F_X12_stopsAt_b116
    rw [if_pos (nI_in0 hc (by omega)), nI_clamp (by omega), hb_e, hb_e, P'.2.2.2.1, hs_o (show 149 ≠ 147 by decide), (T.2.1 c hc).2.2.1]
    rw [show i = q 5 by omega] at T ⊢
    exact okV_s ⟨TrM_s (k := 3) (by decide) (by decide) (by decide) (TrM_s (k := 8) (by decide) (by decide) (by decide) T), MF_s (MF_s f (by omega)) (by omega)⟩
  | succ m ih =>
    intro i fuel h e1 e2 T f
    obtain ⟨fu, rfl⟩ : ∃ g, fuel = g + 1 := ⟨fuel - 1, by omega⟩
    have P' := PqM_t P f
    have pi := P'.2.2.2.2.2.2.2.2.1 i (by omega)
    have ui := Q.2.2.2.2.2.2.2.2.2.2.2.1 i (by omega)
    have Ki := brd_ok (u := u) (t := t) hc (by omega) K i (by omega)
    have fli : fl (sBrd q u c t i S) c = fl S c := by unfold fl; rw [brd_o (by decide)]
    have ll := (Ki.1 c hc).2.2.2.1
    have no : ¬ sBr q u c i (sBrd q u c t i S) = true → okV (F_X12_stopsAt_b56 N fu (nI c) (nI t) (nI (lod (q 5) (sBrd q u c t i S) c)) (nI (i + 1)) h) (fun h' => TrM b (sDoor (q 3) c (sBrd q u c t (q 5) S)) h' ∧ MF h0 h') := fun z => by
      have e : sBrd q u c t (i + 1) S = sBrd q u c t i S := by rw [sBrd, if_neg z]
      have := ih (i + 1) fu h (by omega) (by omega) (by rw [e]; exact T) f
      rw [e] at this
      exact this
    rw [F_X12_stopsAt_b56, P'.2.2.2.2.2.1, if_neg (nI_ge (by omega) (by omega)), P'.2.2.1, waiting_x T (by omega), bI_s]
    unfold F_X12_stopsAt_b110
    simp only [ib_e, nI_1]
    by_cases g : lod (q 5) (sBrd q u c t i S) c < q 2
    · rw [if_neg (nI_ge g (by omega))]
      by_cases g1 : wtg (sBrd q u c t i S) c i = true
      · rw [if_pos g1, if_neg one10, if_pos (nI_in0 (by omega : i < 24) (by omega)), if_pos (nI_in0 hc (by omega)), nI_clamp (by omega), nI_clamp (by omega), pi.2.1, m_f T Ki hc, if_pos (nI_in0 (by omega : i < 24) (by omega)), hb_e, fli]
        by_cases g2 : u 1 i = fl S c
        · rw [if_pos (by rw [g2])]
          have bb : sBr q u c i (sBrd q u c t i S) = true := by unfold sBr; rw [fli]; simp [g, g1, g2]
          have e : sBrd q u c t (i + 1) S = su (sBrd q u c t i S) 1 i (nI t) := by rw [sBrd, if_pos bb]
          have o2 := (Ki.2 i (by omega)).2.2.1 (of_decide_eq_true g1).2
          have := ih (i + 1) fu (hs h 143 i (nI t)) (by omega) (by omega) (by rw [e]; exact TrM_s (k := 1) (by decide) (by decide) (by decide) T) (MF_s f (by omega))
          rw [e, brd_lod hc (by omega) (by omega) g1 o2 hc, if_pos rfl] at this
          exact this
        · rw [if_neg (fun z => g2 ((nI_eq (by omega) (by omega)).mp z))]
          exact no (by unfold sBr; rw [fli]; simp [g2])
      · rw [if_neg g1, if_pos rfl]
        exact no (by unfold sBr; simp [g1])
    · rw [if_pos (nI_le (by omega) (by omega))]
      exact no (by unfold sBr; simp [g])
theorem stopsM_x {N c : Nat} (hN : 100 ≤ N) (hc : c < 2) (ht : t < 900) (Q : Qok q u) (K : Sok q S) (P : PqM q u h) (T : TrM b S h) : okV (F_X12_stopsAt N (nI c) (nI t) h) (fun h' => TrM b (sStop q u c t S) h' ∧ MF h h') := by
  have q5 : q 5 ≤ 24 := Q.2.2.2.2.2.2.2.2.1
  refine stops_b2 hc ht Q K P (fun k T1 f1 => ?_) (q 5) 0 N h (by omega) (by omega) (by rw [let_00]; exact T) MF_0
  have K1 : Sok q (sOut q u c t S) := let_ok (t := t) (c := c) (by omega) K (fun i _ z => by simp at z; exact z.1)
  unfold F_X12_stopsAt_b47
  rw [loadM_x hN Q (PqM_t P f1) T1, bI_s]
  exact okV_m (stops_b56 hc ht Q K1 (PqM_t P f1) (q 5) 0 N k (by omega) (by omega) T1 MF_0) (fun h' z => ⟨z.1, MF_t f1 z.2⟩)
theorem bitM {g f : Nat} (hf : f < 32) : ((nI g >>> (nI f &&& 31)) &&& 1) = if g.testBit f = true then 1 else 0 := Mk_bit (n := 32) (P := fun i => g.testBit i) hf (by omega) (fun i hi => by rw [b_nI _ hi]; simp [hi])
theorem isF_no {F f : Nat} (h1 : F ≤ f) (h2 : f < 2147483648) : isF F (nI f) = false := decide_eq_false (fun z => nI_nlt h1 h2 z.2)
theorem isF_m1 {F : Nat} : isF F (bu 0) = false := decide_eq_false (fun z => absurd z.1 (by decide))
theorem nearU {N g : Nat} (hq : q 0 ≤ 6) (P : PqM q u h) : ∀ m k f fuel, q 0 < f + m → m < fuel → f < 20 → F_X12_nearest_b13 N fuel (nI g) 1 (nI k) (nI f) h = some (nI (nrU (q 0) g m k f), h) := by
  intro m
  induction m with
  | zero =>
    intro k f fuel e1 e2 e3
    obtain ⟨fu, rfl⟩ : ∃ g, fuel = g + 1 := ⟨fuel - 1, by omega⟩
    rw [F_X12_nearest_b13, isFloorM_x (F := q 0) P.1, bI_s, isF_no (by omega) (by omega), if_pos (by decide)]
    rfl
  | succ m ih =>
    intro k f fuel e1 e2 e3
    obtain ⟨fu, rfl⟩ : ∃ g, fuel = g + 1 := ⟨fuel - 1, by omega⟩
    rw [F_X12_nearest_b13, isFloorM_x (F := q 0) P.1, bI_s, nrU]
    by_cases g1 : f < q 0
    · rw [if_pos (isF_k g1 (by omega)), if_neg one10, if_pos g1, bitM (by omega), ib_e, ib_e, nI_1, nI_1]
      by_cases g2 : g.testBit f = true
      · rw [if_pos g2, if_pos rfl, if_pos g2]
      · rw [if_neg g2, if_neg (by decide), if_neg g2]
        exact ih (k + 1) (f + 1) fu (by omega) (by omega) (by omega)
    · rw [isF_no (by omega) (by omega), if_pos (by decide), if_neg g1]
      rfl
theorem nearD {N g : Nat} (hq : q 0 ≤ 6) (P : PqM q u h) : ∀ f k fuel, f < fuel → f ≤ q 0 → F_X12_nearest_b13 N fuel (nI g) (-1) (nI k) (bu f) h = some (nI (nrD g k f), h) := by
  intro f
  induction f with
  | zero =>
    intro k fuel e1 e2
    obtain ⟨fu, rfl⟩ : ∃ g, fuel = g + 1 := ⟨fuel - 1, by omega⟩
    rw [F_X12_nearest_b13, isFloorM_x (F := q 0) P.1, bI_s, isF_m1, if_pos (by decide)]
    rfl
  | succ f ih =>
    intro k fuel e1 e2
    obtain ⟨fu, rfl⟩ : ∃ g, fuel = g + 1 := ⟨fuel - 1, by omega⟩
    rw [show bu (f + 1) = nI f from rfl, F_X12_nearest_b13, isFloorM_x (F := q 0) P.1, bI_s, nrD, if_pos (isF_k (by omega) (by omega)), if_neg one10, bitM (by omega), ib_e, ib_e, nI_1, bu_a]
    by_cases g2 : g.testBit f = true
    · rw [if_pos g2, if_pos rfl, if_pos g2]
    · rw [if_neg g2, if_neg (by decide), if_neg g2]
      exact ih (k + 1) fu (by omega) (by omega)
theorem nr_d : ∀ F, F < 7 → ∀ g, g < 64 → ∀ y, y < 6 → nrU F g 7 1 (y + 1) ≤ 99 ∧ nrD g 1 y ≤ 99 := by decide +kernel
theorem goesM_x {N c : Nat} (hN : 100 ≤ N) (hc : c < 2) (Q : Qok q u) (K : Sok q S) (P : PqM q u h) (T : TrM true S h) (m : mst q u S c = false) : okV (F_X12_goes N (nI c) h) (fun h' => TrM true (sGo q u c S) h' ∧ MF h h') := by
  have q06 : q 0 ≤ 6 := Q.2.1
  have q4 : q 4 < q 0 := Q.2.2.2.2.2.2.2.1
  have fy := (K.1 c hc).1
  have gl := mkN_lt (P := gol q u S c) (q 0)
  have p6 : 2 ^ q 0 ≤ 2 ^ 6 := Nat.pow_le_pow_right (by decide) q06
  unfold F_X12_goes sGo
  rw [goalsM_x hN Q K P T hc, bI_s]
  by_cases g : mkN (gol q u S c) (q 0) = 0
  · rw [if_pos (by rw [g]; rfl), if_pos g, if_pos (nI_in0 hc (by omega)), nI_clamp (by omega), hb_e]
    have T1 : TrM true (su S 7 c 0) (hs h 146 c 0) := TrM_s (k := 7) (by decide) (by decide) (by decide) T
    have f1 : MF h (hs h 146 c 0) := MF_s MF_0 (by omega)
    have K1 : Sok q (su S 7 c 0) := ok_7 (Or.inl rfl) K
    have P1 := PqM_t P f1
    have fe : fl (su S 7 c 0) c = fl S c := fl_o (by decide)
    rw [P1.2.2.2.2.1, m_f T1 K1 hc, fe, if_pos (nI_in0 hc (by omega)), if_pos (nI_in0 hc (by omega))]
    unfold sPark F_X12_goes_b64
    rw [fe]
    by_cases g2 : fl S c = q 4
    · rw [if_pos (by rw [g2]), if_pos g2]
      exact okV_s ⟨T1, f1⟩
    · rw [if_neg (fun z => g2 ((nI_eq (by omega) (by omega)).mp z)), if_neg g2]
      by_cases g3 : fl S c < q 4
      · rw [if_neg (nI_ge g3 (by omega)), if_pos (nI_in0 hc (by omega)), if_pos g3, nI_1]
        obtain ⟨h', e1, e2, e3⟩ := passM_x hc Q K1 T1 (y := fl S c + 1) (by omega) (by omega)
        rw [e1, bV_s]
        exact okV_s ⟨e2, MF_t f1 e3⟩
      · rw [if_pos (nI_le (by omega) (by omega)), if_neg g3, nI_m1 (by omega)]
        obtain ⟨h', e1, e2, e3⟩ := passM_x hc Q K1 T1 (y := fl S c - 1) (by omega) (by omega)
        rw [e1, bV_s]
        exact okV_s ⟨e2, MF_t f1 e3⟩
  · have wk := (way_ok Q K hc m g).2
    obtain ⟨n1, n2⟩ := nr_d (q 0) (by omega) _ (by omega : mkN (gol q u S c) (q 0) < 64) (fl S c) (by omega)
    generalize hg : mkN (gol q u S c) (q 0) = gg at *
    have s7 := (T.2.1 c hc).2.2.2 rfl
    have up : F_X12_nearest N (nI c) (nI gg) 1 h = some (nI (nrU (q 0) gg 7 1 (fl S c + 1)), h) := by
      unfold F_X12_nearest
      rw [if_pos (nI_in0 hc (by omega)), nI_clamp (by omega), m_f T K hc, nI_1, ib_e]
      exact nearU q06 P 7 1 (fl S c + 1) N (by omega) (by omega) (by omega)
    have dn : F_X12_nearest N (nI c) (nI gg) (-1) h = some (nI (nrD gg 1 (fl S c)), h) := by
      unfold F_X12_nearest
      rw [if_pos (nI_in0 hc (by omega)), nI_clamp (by omega), m_f T K hc, bu_a, ib_e]
      exact nearD q06 P (fl S c) 1 N (by omega) (by omega)
    rw [if_neg (fun z => g ((n_eq_l 0 (by omega) (by omega)).mp z)), if_neg g, up, bI_s, dn, bI_s, if_pos (nI_in0 hc (by omega)), nI_clamp (by omega), s7]
    unfold F_X12_goes_b118 F_X12_goes_b101 F_X12_goes_b118 F_X12_goes_b122 F_X12_goes_b123 F_X12_goes_b146
    rw [if_neg one10, if_pos rfl, if_pos (nI_in0 hc (by omega)), nI_clamp (by omega), s7]
    -- the way is kept
    have mv : ∀ (k : PH) (w : Int32), TrM true (su S 7 c w) k → MF h k → w = wyN (q 0) gg (fl S c) (S 7 c) → okV (F_X12_goes_b147 N (nI c) k) (fun h' => TrM true (sHead (wyN (q 0) gg (fl S c) (S 7 c)) c S) h' ∧ MF h h') := fun k w Tk fk hw => by
      rw [← hw] at wk ⊢
      have fe : fl (su S 7 c w) c = fl S c := fl_o (by decide)
      have w7 : k.1 146 c = w := by rw [(Tk.2.1 c hc).2.2.2 rfl, su_s, pk_us]
      have w5 : k.1 145 c = nI (fl S c) := by rw [(Tk.2.1 c hc).1, su_o (by decide)]; exact (K.1 c hc).2.1
      unfold F_X12_goes_b147 sHead
      rw [if_pos (nI_in0 hc (by omega)), nI_clamp (by omega), w7, w5]
      rcases wk with ⟨rfl, z⟩ | ⟨rfl, z⟩
      · obtain ⟨h', e1, e2, e3⟩ := passM_x hc Q (ok_7 (Or.inr (Or.inl rfl)) K) Tk (y := fl S c + 1) (by omega) (by omega)
        rw [nI_1, e1, bV_s, if_pos rfl]
        exact okV_s ⟨e2, MF_t fk e3⟩
      · obtain ⟨h', e1, e2, e3⟩ := passM_x hc Q (ok_7 (Or.inr (Or.inr rfl)) K) Tk (y := fl S c - 1) (by omega) (by omega)
        have := pk_m1 (fl S c - 1)
        rw [show fl S c - 1 + 1 = fl S c by omega] at this
        rw [this, e1, bV_s, if_neg (by decide)]
        exact okV_s ⟨e2, MF_t fk e3⟩
    have keep : ((S 7 c = 1 ∧ nrU (q 0) gg 7 1 (fl S c + 1) < 99) ∨ (S 7 c = -1 ∧ nrD gg 1 (fl S c) < 99)) → okV (F_X12_goes_b147 N (nI c) h) (fun h' => TrM true (sHead (wyN (q 0) gg (fl S c) (S 7 c)) c S) h' ∧ MF h h') := fun z => mv h (S 7 c) (by rw [su_id]; exact T) MF_0 (by unfold wyN; rw [if_pos z])
    have turn : ¬ ((S 7 c = 1 ∧ nrU (q 0) gg 7 1 (fl S c + 1) < 99) ∨ (S 7 c = -1 ∧ nrD gg 1 (fl S c) < 99)) → okV (if nI (nrD gg 1 (fl S c)) < nI (nrU (q 0) gg 7 1 (fl S c + 1)) then (if inb (nI c) 2 = true then hb (hs h 146 c (-1)) (fun h2 => F_X12_goes_b147 N (nI c) h2) else none) else (if inb (nI c) 2 = true then hb (hs h 146 c 1) (fun h2 => F_X12_goes_b147 N (nI c) h2) else none)) (fun h' => TrM true (sHead (wyN (q 0) gg (fl S c) (S 7 c)) c S) h' ∧ MF h h') := fun z => by
      rw [if_pos (nI_in0 hc (by omega)), if_pos (nI_in0 hc (by omega))]
      by_cases y : nrD gg 1 (fl S c) < nrU (q 0) gg 7 1 (fl S c + 1)
      · rw [if_pos (nI_lt y (by omega)), hb_e]
        exact mv _ (-1) (TrM_s (k := 7) (by decide) (by decide) (by decide) T) (MF_s MF_0 (by omega)) (by unfold wyN; rw [if_neg z, if_neg (by omega)])
      · rw [if_neg (nI_nlt (by omega) (by omega)), hb_e]
        exact mv _ 1 (TrM_s (k := 7) (by decide) (by decide) (by decide) T) (MF_s MF_0 (by omega)) (by unfold wyN; rw [if_neg z, if_pos (by omega)])
    have n99 : ∀ {a : Nat}, a ≤ 99 → (nI a < 99 ↔ a < 99) := fun {a} ha => n_lt_l 99 (by omega) (by omega)
    have l99 : ∀ {a : Nat}, a ≤ 99 → ((99 : Int32) ≤ nI a ↔ 99 ≤ a) := fun {a} ha => l_le_n 99 (by omega) (by omega)
    by_cases h1 : S 7 c = 1
    · have hm : ¬ S 7 c = -1 := by rw [h1]; decide
      rw [if_pos h1, if_neg hm]
      by_cases y : nrU (q 0) gg 7 1 (fl S c + 1) < 99
      · rw [if_pos ((n99 n1).mpr y)]; exact keep (Or.inl ⟨h1, y⟩)
      · rw [if_neg (fun z => y ((n99 n1).mp z))]
        exact turn (fun z => by
          rcases z with z | z
          · exact y z.2
          · exact hm z.1)
    · rw [if_neg h1]
      by_cases h2 : S 7 c = -1
      · rw [if_pos h2]
        by_cases y : nrD gg 1 (fl S c) < 99
        · rw [if_neg (fun z => by have := (l99 n2).mp z; omega)]; exact keep (Or.inr ⟨h2, y⟩)
        · rw [if_pos ((l99 n2).mpr (by omega))]
          exact turn (fun z => by
            rcases z with z | z
            · exact h1 z.1
            · exact y z.2)
      · rw [if_neg h2]
        exact turn (fun z => by
          rcases z with z | z
          · exact h1 z.1
          · exact h2 z.1)
end
