/-! a run in the reference's cells -/
def PqM (q : Nat → Nat) (u : Nat → Nat → Nat) (h : PH) : Prop := h.1 103 1 = nI (q 0) ∧ h.1 103 53 = nI (q 1) ∧ h.1 103 54 = nI (q 2) ∧ h.1 103 55 = nI (q 3) ∧ h.1 103 56 = nI (q 4) ∧ h.1 103 57 = nI (q 5) ∧ h.1 103 61 = nI (q 6) ∧ h.1 103 65 = bu (q 7) ∧ (∀ i, i < q 5 → h.1 136 i = nI (u 0 i) ∧ h.1 137 i = nI (u 1 i) ∧ h.1 138 i = nI (u 2 i)) ∧ ∀ i, i < q 6 → h.1 139 i = nI (u 3 i) ∧ h.1 140 i = nI (u 4 i) ∧ h.1 141 i = nI (u 5 i)
def TrM (b : Bool) (S : TSt) (h : PH) : Prop := (∀ i, i < 24 → h.1 142 i = S 0 i ∧ h.1 143 i = S 1 i ∧ h.1 144 i = S 2 i) ∧ (∀ k, k < 2 → h.1 145 k = S 6 k ∧ h.1 147 k = S 8 k ∧ h.1 149 k = S 3 k ∧ (b = true → h.1 146 k = S 7 k)) ∧ ∀ k, k < 2 → ∀ j, j < 5 → h.1 148 (5 * k + j) = S (4 + k) j
def RwM (v : (Nat → Int32) → Int32) (h : PH) : Prop := (h.1 103 20 = 0 ∧ ∀ fa, v fa = 0) ∨ (h.1 103 20 = 1 ∧ ∃ C : List Nat, h.1 106 25 = nI 1000 ∧ h.1 107 25 = nI (1000 + C.length) ∧ C.length ≤ 1000 ∧ cAt h 1000 C ∧ ∀ N ψ, 100 ≤ N → VE N ψ 0 C (v (fun a => ψ (a + 1))) 0)
def MF (h h' : PH) : Prop := ∀ a b, a ≤ 113 ∨ (124 ≤ a ∧ a ≤ 141) ∨ 150 ≤ a → h'.1 a b = h.1 a b
section
variable {q : Nat → Nat} {u : Nat → Nat → Nat} {v : (Nat → Int32) → Int32} {way : Int32} {S : TSt} {b : Bool} {t : Nat} {h h' h2 : PH}
theorem MF_0 : MF h h := fun _ _ _ => rfl
theorem MF_t (a : MF h h') (b : MF h' h2) : MF h h2 := fun x y z => (b x y z).trans (a x y z)
theorem MF_s {k j : Nat} {x : Int32} (a : MF h h') (e : (142 ≤ k ∧ k ≤ 149) ∨ (114 ≤ k ∧ k ≤ 123)) : MF h (hs h' k j x) := fun c d z => by
  rw [hs_1]
  by_cases e1 : c = k
  · by_cases e2 : d = j
    · omega
    · rw [if_pos e1, if_neg e2]; exact a c d z
  · rw [if_neg e1]; exact a c d z
theorem PqM_q (P : PqM q u h) (e : ∀ a b, (a = 103 ∧ (b = 1 ∨ (53 ≤ b ∧ b ≤ 65))) ∨ (136 ≤ a ∧ a ≤ 141) → h'.1 a b = h.1 a b) : PqM q u h' := by
  obtain ⟨p1, p2, p3, p4, p5, p6, p7, p8, p9, p10⟩ := P
  refine ⟨?_, ?_, ?_, ?_, ?_, ?_, ?_, ?_, fun i hi => ⟨?_, ?_, ?_⟩, fun i hi => ⟨?_, ?_, ?_⟩⟩
  · rw [e 103 1 (by omega)]; exact p1
  · rw [e 103 53 (by omega)]; exact p2
  · rw [e 103 54 (by omega)]; exact p3
  · rw [e 103 55 (by omega)]; exact p4
  · rw [e 103 56 (by omega)]; exact p5
  · rw [e 103 57 (by omega)]; exact p6
  · rw [e 103 61 (by omega)]; exact p7
  · rw [e 103 65 (by omega)]; exact p8
  · rw [e 136 i (by omega)]; exact (p9 i hi).1
  · rw [e 137 i (by omega)]; exact (p9 i hi).2.1
  · rw [e 138 i (by omega)]; exact (p9 i hi).2.2
  · rw [e 139 i (by omega)]; exact (p10 i hi).1
  · rw [e 140 i (by omega)]; exact (p10 i hi).2.1
  · rw [e 141 i (by omega)]; exact (p10 i hi).2.2
theorem PqM_t (P : PqM q u h) (f : MF h h') : PqM q u h' := PqM_q P (fun a b z => f a b (by omega))
theorem RwM_q (R : RwM v h) (e : ∀ a b, (a = 103 ∧ b = 20) ∨ (a = 106 ∧ b = 25) ∨ (a = 107 ∧ b = 25) ∨ (a = 111 ∧ 1000 ≤ b ∧ b < 2000) → h'.1 a b = h.1 a b) : RwM v h' := by
  rcases R with ⟨r1, r2⟩ | ⟨r1, C, r2, r3, r4, r5, r6⟩
  · exact Or.inl ⟨by rw [e 103 20 (by omega)]; exact r1, r2⟩
  · exact Or.inr ⟨by rw [e 103 20 (by omega)]; exact r1, C, by rw [e 106 25 (by omega)]; exact r2, by rw [e 107 25 (by omega)]; exact r3, r4, fun t ht => by rw [e 111 _ (by omega)]; exact r5 t ht, r6⟩
theorem RwM_t (R : RwM v h) (f : MF h h') : RwM v h' := RwM_q R (fun a b z => f a b (by omega))
theorem TrM_q (T : TrM b S h) (e : ∀ a c, 142 ≤ a ∧ a ≤ 149 → h'.1 a c = h.1 a c) : TrM b S h' := by
  obtain ⟨t1, t2, t3⟩ := T
  refine ⟨fun i hi => ?_, fun k hk => ?_, fun k hk j hj => ?_⟩
  · rw [e 142 i (by omega), e 143 i (by omega), e 144 i (by omega)]; exact t1 i hi
  · rw [e 145 k (by omega), e 146 k (by omega), e 147 k (by omega), e 149 k (by omega)]; exact t2 k hk
  · rw [e 148 _ (by omega)]; exact t3 k hk j hj
theorem TrM_b (T : TrM b S h) {b' : Bool} (e : b' = true → b = true) : TrM b' S h := ⟨T.1, fun k hk => ⟨(T.2.1 k hk).1, (T.2.1 k hk).2.1, (T.2.1 k hk).2.2.1, fun z => (T.2.1 k hk).2.2.2 (e z)⟩, T.2.2⟩
def mm (k : Nat) : Nat := if k < 3 then 142 + k else if k = 3 then 149 else if k = 6 then 145 else if k = 7 then 146 else 147
theorem TrM_s {k j : Nat} {x : Int32} (hk : k < 9) (h4 : k ≠ 4) (h5 : k ≠ 5) (T : TrM b S h) : TrM b (su S k j x) (hs h (mm k) j x) := by
  obtain ⟨t1, t2, t3⟩ := T
  have hc : k = 0 ∨ k = 1 ∨ k = 2 ∨ k = 3 ∨ k = 6 ∨ k = 7 ∨ k = 8 := by omega
  refine ⟨fun i hi => ?_, fun c hc' => ?_, fun c hc' l hl => ?_⟩
  · obtain ⟨a1, a2, a3⟩ := t1 i hi
    by_cases e : i = j
    · rcases hc with rfl | rfl | rfl | rfl | rfl | rfl | rfl <;> simp [hs_1, su_e, mm, e] <;> (try rw [← e]) <;> simp [a1, a2, a3]
    · rcases hc with rfl | rfl | rfl | rfl | rfl | rfl | rfl <;> simp [hs_1, su_e, mm, e, a1, a2, a3]
  · obtain ⟨a1, a2, a3, a4⟩ := t2 c hc'
    by_cases e : c = j
    · rcases hc with rfl | rfl | rfl | rfl | rfl | rfl | rfl <;> simp [hs_1, su_e, mm, e] <;> (try rw [← e]) <;> simp [a1, a2, a3] <;> exact a4
    · rcases hc with rfl | rfl | rfl | rfl | rfl | rfl | rfl <;> simp [hs_1, su_e, mm, e, a1, a2, a3] <;> exact a4
  · have := t3 c hc' l hl
    rw [hs_o, su_o (by omega)]
    · exact this
    · rcases hc with rfl | rfl | rfl | rfl | rfl | rfl | rfl <;> decide
theorem inside_x (T : TrM b S h) {i c : Nat} (hi : i < 24) : F_X12_isInside (nI i) (nI c) h = some (if ins S c i = true then 1 else 0, h) := by
  obtain ⟨a1, a2, a3⟩ := T.1 i hi
  unfold F_X12_isInside F_X12_isInside_b32
  rw [if_pos (nI_in0 hi (by omega)), if_pos (nI_in0 hi (by omega)), if_pos (nI_in0 hi (by omega)), nI_clamp (by omega), a1, a2, a3]
  unfold ins
  by_cases g1 : S 0 i = nI c
  · rw [if_pos g1]
    by_cases g2 : S 1 i < 0
    · rw [if_pos g2, if_neg (by simp; intro _ z; exact absurd g2 (Int32.not_lt.mpr z))]
    · rw [if_neg g2]
      by_cases g3 : 0 ≤ S 2 i
      · rw [if_pos g3, if_neg (by simp; intro _ _; exact g3)]
      · rw [if_neg g3, if_pos (by simp; exact ⟨g1, Int32.not_lt.mp g2, Int32.not_le.mp g3⟩)]
  · rw [if_neg g1, if_neg (by simp [g1])]
theorem waiting_x (T : TrM b S h) {i c : Nat} (hi : i < 24) : F_X12_isWaiting (nI i) (nI c) h = some (if wtg S c i = true then 1 else 0, h) := by
  obtain ⟨a1, a2, a3⟩ := T.1 i hi
  unfold F_X12_isWaiting F_X12_isWaiting_b23
  rw [if_pos (nI_in0 hi (by omega)), if_pos (nI_in0 hi (by omega)), nI_clamp (by omega), a1, a2]
  unfold wtg
  by_cases g1 : S 0 i = nI c
  · rw [if_pos g1]
    by_cases g2 : 0 ≤ S 1 i
    · rw [if_pos g2, if_neg (by simp; intro _; exact g2)]
    · rw [if_neg g2, if_pos (by simp; exact ⟨g1, Int32.not_le.mp g2⟩)]
  · rw [if_neg g1, if_neg (by simp [g1])]
theorem load_b4 {N c : Nat} (Q : Qok q u) (P : PqM q u h) (T : TrM b S h) : ∀ m i fuel, i + m = q 5 → m < fuel → F_X12_loadOf_b4 N fuel (nI c) (nI (fb_ct (ins S c) i)) (nI i) h = some (nI (lod (q 5) S c), h) := by
  have q5 : q 5 ≤ 24 := Q.2.2.2.2.2.2.2.2.1
  intro m
  induction m with
  | zero =>
    intro i fuel e1 e2
    obtain ⟨fu, rfl⟩ : ∃ g, fuel = g + 1 := ⟨fuel - 1, by omega⟩
    rw [F_X12_loadOf_b4, P.2.2.2.2.2.1, if_pos (nI_le (by omega) (by omega)), show i = q 5 by omega]
    rfl
  | succ m ih =>
    intro i fuel e1 e2
    obtain ⟨fu, rfl⟩ : ∃ g, fuel = g + 1 := ⟨fuel - 1, by omega⟩
    have := ih (i + 1) fu (by omega) (by omega)
    rw [fb_ct_succ] at this
    rw [F_X12_loadOf_b4, P.2.2.2.2.2.1, if_neg (nI_ge (by omega) (by omega)), inside_x T (by omega), bI_s]
    unfold F_X12_loadOf_b27
    simp only [ib_e, nI_1]
    by_cases g : ins S c i = true
    · rw [if_pos g, if_neg one10]
      rw [if_pos g] at this
      exact this
    · rw [if_neg g, if_pos rfl, show nI (fb_ct (ins S c) i) + 0 = nI (fb_ct (ins S c) i + 0) from nI_add _ 0]
      rw [if_neg g] at this
      exact this
theorem loadM_x {N c : Nat} (hN : 100 ≤ N) (Q : Qok q u) (P : PqM q u h) (T : TrM b S h) : F_X12_loadOf N (nI c) h = some (nI (lod (q 5) S c), h) := by
  have q5 : q 5 ≤ 24 := Q.2.2.2.2.2.2.2.2.1
  exact load_b4 Q P T (q 5) 0 N (by omega) (by omega)
theorem exn_s {n : Nat} {P : Nat → Bool} : exn (n + 1) P = (exn n P || P n) := by
  unfold exn
  rw [fb_ct_succ]
  cases P n <;> simp
theorem goals23 {N c : Nat} (Q : Qok q u) (P : PqM q u h) (T : TrM b S h) (hc : c < 2) {x3 : Int32} (h3 : x3 = if lod (q 5) S c < q 2 then 0 else 1) : ∀ m i x2 fuel, i + m = q 5 → m < fuel → Mk x2 (q 0) (fun f => exn i (fun i => (ins S c i && decide (u 2 i = f)) || (decide (lod (q 5) S c < q 2) && (wtg S c i && decide (u 1 i = f))))) → ∃ r, F_X12_goalsOf_b23 N fuel (nI c) x2 x3 (nI i) h = some (r, h) ∧ Mk r (q 0) (gol q u S c) := by
  have q5 : q 5 ≤ 24 := Q.2.2.2.2.2.2.2.2.1
  have q06 : q 0 ≤ 6 := Q.2.1
  intro m
  induction m with
  | zero =>
    intro i x2 fuel e1 e2 M
    obtain ⟨fu, rfl⟩ : ∃ g, fuel = g + 1 := ⟨fuel - 1, by omega⟩
    rw [F_X12_goalsOf_b23, P.2.2.2.2.2.1, if_pos (nI_le (by omega) (by omega))]
    rw [show i = q 5 by omega] at M
    exact ⟨x2, rfl, M⟩
  | succ m ih =>
    intro i x2 fuel e1 e2 M
    obtain ⟨fu, rfl⟩ : ∃ g, fuel = g + 1 := ⟨fuel - 1, by omega⟩
    have ui := Q.2.2.2.2.2.2.2.2.2.2.2.1 i (by omega)
    have pi := P.2.2.2.2.2.2.2.2.1 i (by omega)
    -- behind the one inside
    have two : ∀ y, Mk y (q 0) (fun f => exn i (fun i => (ins S c i && decide (u 2 i = f)) || (decide (lod (q 5) S c < q 2) && (wtg S c i && decide (u 1 i = f)))) || (ins S c i && decide (u 2 i = f))) → ∃ r, F_X12_goalsOf_b54 N (F_X12_goalsOf_b23 N fu) (nI c) y x3 (nI i) h = some (r, h) ∧ Mk r (q 0) (gol q u S c) := fun y My => by
      have fin : ∀ w, Mk w (q 0) (fun f => (exn i (fun i => (ins S c i && decide (u 2 i = f)) || (decide (lod (q 5) S c < q 2) && (wtg S c i && decide (u 1 i = f)))) || (ins S c i && decide (u 2 i = f))) || (decide (lod (q 5) S c < q 2) && (wtg S c i && decide (u 1 i = f)))) → ∃ r, F_X12_goalsOf_b23 N fu (nI c) w x3 (nI (i + 1)) h = some (r, h) ∧ Mk r (q 0) (gol q u S c) := fun w Mw => ih (i + 1) w fu (by omega) (by omega) (Mk_c Mw (fun f _ => by rw [exn_s, Bool.or_assoc]))
      unfold F_X12_goalsOf_b54 F_X12_goalsOf_b80
      rw [waiting_x T (by omega), bI_s]
      simp only [ib_e, nI_1]
      by_cases g : wtg S c i = true
      · rw [if_pos g, if_neg one10, h3]
        by_cases g2 : lod (q 5) S c < q 2
        · rw [if_pos g2, if_pos rfl, if_pos (nI_in0 (by omega : i < 24) (by omega)), nI_clamp (by omega), pi.2.1]
          rw [if_pos g2] at h3
          rw [← h3]
          refine fin _ (Mk_c (Mk_or My (Mk_1 (by omega : u 1 i < q 0) (by omega))) (fun f _ => ?_))
          rw [g, decide_eq_true g2, Bool.true_and, Bool.true_and]
          congr 1
          exact decide_eq_decide.mpr ⟨fun z => z.symm, fun z => z.symm⟩
        · rw [if_neg g2, if_neg one10]
          rw [if_neg g2] at h3
          rw [← h3]
          exact fin _ (Mk_c My (fun f _ => by rw [decide_eq_false g2]; simp))
      · rw [if_neg g, if_pos rfl]
        exact fin _ (Mk_c My (fun f _ => by simp [g]))
    rw [F_X12_goalsOf_b23, P.2.2.2.2.2.1, if_neg (nI_ge (by omega) (by omega)), inside_x T (by omega), bI_s]
    by_cases g : ins S c i = true
    · rw [if_pos g, if_neg one10, if_pos (nI_in0 (by omega : i < 24) (by omega)), nI_clamp (by omega), pi.2.2, ib_e]
      refine two _ (Mk_c (Mk_or M (Mk_1 (by omega : u 2 i < q 0) (by omega))) (fun f _ => ?_))
      rw [g, Bool.true_and]
      congr 1
      exact decide_eq_decide.mpr ⟨fun z => z.symm, fun z => z.symm⟩
    · rw [if_neg g, if_pos rfl]
      exact two _ (Mk_c M (fun f _ => by simp [g]))
theorem goalsM_x {N c : Nat} (hN : 100 ≤ N) (Q : Qok q u) (K : Sok q S) (P : PqM q u h) (T : TrM b S h) (hc : c < 2) : F_X12_goalsOf N (nI c) h = some (nI (mkN (gol q u S c) (q 0)), h) := by
  have q5 : q 5 ≤ 24 := Q.2.2.2.2.2.2.2.2.1
  have q2 : q 2 ≤ 8 := Q.2.2.2.2.2.1
  have l := (K.1 c hc).2.2.2.1
  have key : ∀ x3, x3 = (if lod (q 5) S c < q 2 then (0 : Int32) else 1) → F_X12_goalsOf_b19 N (nI c) 0 x3 h = some (nI (mkN (gol q u S c) (q 0)), h) := fun x3 h3 => by
    unfold F_X12_goalsOf_b19
    obtain ⟨r, e1, e2⟩ := goals23 (N := N) Q P T hc h3 (q 5) 0 0 N (by omega) (by omega) (Mk_c Mk_0 (fun f _ => by unfold exn; rfl))
    rw [show (0 : Int32) = nI 0 from rfl] at e1 ⊢
    rw [e1, Mk_e e2 mkN_Mk]
  unfold F_X12_goalsOf
  rw [loadM_x hN Q P T, bI_s, P.2.2.1]
  by_cases g : lod (q 5) S c < q 2
  · rw [if_neg (fun z => by have := (nI_eq (by omega) (by omega)).mp z; omega)]
    exact key 0 (by rw [if_pos g])
  · rw [if_pos (by congr 1; omega)]
    exact key 1 (by rw [if_neg g])
theorem bits_b4 {N : Nat} {x : Int32} {P : Nat → Bool} (M : Mk x 6 P) {h : PH} : ∀ m f fuel, f + m = 6 → m < fuel → F_X12_bits_b4 N fuel x (nI (fb_ct P f)) (nI f) h = some (nI (fb_ct P 6), h) := by
  intro m
  induction m with
  | zero =>
    intro f fuel e1 e2
    obtain ⟨fu, rfl⟩ : ∃ g, fuel = g + 1 := ⟨fuel - 1, by omega⟩
    rw [F_X12_bits_b4, show f = 6 by omega, if_pos (by decide)]
  | succ m ih =>
    intro f fuel e1 e2
    obtain ⟨fu, rfl⟩ : ∃ g, fuel = g + 1 := ⟨fuel - 1, by omega⟩
    have := ih (f + 1) fu (by omega) (by omega)
    rw [fb_ct_succ] at this
    rw [F_X12_bits_b4, if_neg (fun z => by have := (l_le_n 6 (by omega) (by omega)).mp z; omega), Mk_bit (by omega : f < 6) (by omega) M, ib_e, ib_e, nI_1, ← this]
    by_cases g : P f = true
    · rw [if_pos g, if_pos g, nI_1]
    · rw [if_neg g, if_neg g, show nI (fb_ct P f) + 0 = nI (fb_ct P f + 0) from nI_add _ 0]
theorem bits_x {N : Nat} (hN : 100 ≤ N) {P : Nat → Bool} {n : Nat} (hn : n ≤ 6) {x : Int32} (M : Mk x n P) {h : PH} : F_X12_bits N x h = some (nI (fb_ct P n), h) := by
  have M6 : Mk x 6 (fun i => decide (i < n) && P i) := fun i hi => by
    rw [M i hi]
    by_cases g : i < n
    · simp [g, show i < 6 by omega]
    · simp [g]
  have e : fb_ct (fun i => decide (i < n) && P i) 6 = fb_ct P n := by rw [← Mk_ct (by omega) M6, ← Mk_ct (by omega) M]
  rw [← e]
  exact bits_b4 M6 6 0 N (by omega) (by omega)
theorem tm_d : ∀ a, a < 6 → ∀ y, y < 6 → ∀ w, w < 3 → (if nI w - 1 = (0 : Int32) then (1 : Int32) else if 0 < (nI w - 1) * (nI y - nI a) then 0 else 1) = if twd a y (nI w - 1) = true then 1 else 0 := by decide +kernel
theorem am_d : ∀ a, a < 6 → ∀ y, y < 6 → (if 0 ≤ nI y - nI a then nI y - nI a else - (nI y - nI a)) = nI (if a < y then y - a else a - y) := by decide +kernel
theorem ruleM_x {N : Nat} (hN : 5000 ≤ N) (Q : Qok q u) (K : Sok q S) (P : PqM q u h) (R : RwM v h) (rc : ∀ fa fb, (∀ a, a < 10 → fa a = fb a) → v fa = v fb) (T : TrM true S h) {c i t : Nat} (hc : c < 2) (hi : i < q 5) (ht : t < 900) : okI (F_X12_ruleOf N (nI c) (nI i) (nI t) h) (fun x h' => x = v (fcs q u S c i t) ∧ ∀ a b, a < 114 ∨ 123 < a → h'.1 a b = h.1 a b) := by
  have q5 : q 5 ≤ 24 := Q.2.2.2.2.2.2.2.2.1
  have q06 : q 0 ≤ 6 := Q.2.1
  have ui := Q.2.2.2.2.2.2.2.2.2.2.2.1 i hi
  have fy := (K.1 c hc).1
  have pi := P.2.2.2.2.2.2.2.2.1 i hi
  have f5 : h.1 145 c = nI (fl S c) := by rw [(T.2.1 c hc).1]; exact (K.1 c hc).2.1
  have f6 : h.1 146 c = S 7 c := (T.2.1 c hc).2.2.2 rfl
  obtain ⟨w, w1, w2⟩ := w3 (K.1 c hc).2.2.1
  unfold F_X12_ruleOf
  rcases R with ⟨r1, r2⟩ | ⟨r1, C, r2, r3, r4, r5, r6⟩
  · rw [if_pos r1]
    exact okI_s ⟨(r2 _).symm, fun _ _ _ => rfl⟩
  rw [r1, if_neg one10, if_pos (nI_in0 hc (by omega)), if_pos (nI_in0 (by omega : i < 24) (by omega)), nI_clamp (by omega), nI_clamp (by omega), f5, pi.2.1, ib_e, goalsM_x (by omega) Q K P T hc, bI_s]
  have fold : (if 0 ≤ nI (fl S c) - nI (u 1 i) then F_X12_ruleOf_b49 N (nI c) (nI i) (nI t) (nI (fl S c) - nI (u 1 i)) (nI (mkN (gol q u S c) (q 0))) (nI (fl S c) - nI (u 1 i)) 1 h else F_X12_ruleOf_b49 N (nI c) (nI i) (nI t) (nI (fl S c) - nI (u 1 i)) (nI (mkN (gol q u S c) (q 0))) (-(nI (fl S c) - nI (u 1 i))) 1 h) = F_X12_ruleOf_b49 N (nI c) (nI i) (nI t) (nI (fl S c) - nI (u 1 i)) (nI (mkN (gol q u S c) (q 0))) (nI (if u 1 i < fl S c then fl S c - u 1 i else u 1 i - fl S c)) 1 h := by
    rw [← am_d (u 1 i) (by omega) (fl S c) (by omega)]
    by_cases z : 0 ≤ nI (fl S c) - nI (u 1 i)
    · rw [if_pos z, if_pos z]
    · rw [if_neg z, if_neg z]
  rw [fold]
  unfold F_X12_ruleOf_b49
  rw [if_pos (by decide), show (1 : Int32).toNatClampNeg = 1 by decide, hb_e]
  generalize hk1 : hs h 123 1 (nI (if u 1 i < fl S c then fl S c - u 1 i else u 1 i - fl S c)) = k1
  have z1 : ∀ a, a ≠ 123 → k1.1 a = h.1 a := fun a e => by rw [← hk1, hs_o e]
  rw [loadM_x (by omega) Q (PqM_q P (fun a b z => by rw [z1 a (by omega)])) (TrM_q T (fun a b z => by rw [z1 a (by omega)])), bI_s, if_pos (by decide), show (2 : Int32).toNatClampNeg = 2 by decide, hb_e, bits_x (by omega) q06 mkN_Mk, bI_s, if_pos (by decide), show (3 : Int32).toNatClampNeg = 3 by decide, hb_e, if_pos (nI_in0 hc (by omega)), nI_clamp (by omega), if_pos (nI_in0 hc (by omega))]
  generalize hk3 : hs (hs k1 123 2 (nI (lod (q 5) S c))) 123 3 (nI (fb_ct (gol q u S c) (q 0))) = k3
  have z3 : ∀ a, a ≠ 123 → k3.1 a = h.1 a := fun a e => by rw [← hk3, hs_o e, hs_o e, z1 a e]
  rw [z3 146 (by omega), f6, w2]
  unfold F_X12_ruleOf_b98
  have fold2 : (if nI w - 1 = 0 then F_X12_ruleOf_b103 N (nI c) (nI i) (nI t) (nI (mkN (gol q u S c) (q 0))) 1 4 k3 else if 0 < (nI w - 1) * (nI (fl S c) - nI (u 1 i)) then F_X12_ruleOf_b103 N (nI c) (nI i) (nI t) (nI (mkN (gol q u S c) (q 0))) 0 4 k3 else F_X12_ruleOf_b103 N (nI c) (nI i) (nI t) (nI (mkN (gol q u S c) (q 0))) 1 4 k3) = F_X12_ruleOf_b103 N (nI c) (nI i) (nI t) (nI (mkN (gol q u S c) (q 0))) (if twd (u 1 i) (fl S c) (nI w - 1) = true then 1 else 0) 4 k3 := by
    rw [← tm_d (u 1 i) (by omega) (fl S c) (by omega) w w1]
    by_cases z : nI w - 1 = 0
    · rw [if_pos z, if_pos z]
    · rw [if_neg z, if_neg z]
      by_cases z2 : 0 < (nI w - 1) * (nI (fl S c) - nI (u 1 i))
      · rw [if_pos z2, if_pos z2]
      · rw [if_neg z2, if_neg z2]
  rw [fold2, ← w2]
  unfold F_X12_ruleOf_b103
  rw [if_pos (by decide), show (4 : Int32).toNatClampNeg = 4 by decide, hb_e]
  generalize hk4 : hs k3 123 4 (if twd (u 1 i) (fl S c) (S 7 c) = true then 1 else 0) = k4
  have z4 : ∀ a, a ≠ 123 → k4.1 a = h.1 a := fun a e => by rw [← hk4, hs_o e, z3 a e]
  have gl : mkN (gol q u S c) (q 0) < 2147483648 := Nat.lt_of_lt_of_le (mkN_lt _) (Nat.le_trans (Nat.pow_le_pow_right (by decide) q06) (by decide))
  have fold4 : (if nI (mkN (gol q u S c) (q 0)) = 0 then F_X12_ruleOf_b119 N (nI c) (nI i) (nI t) 1 5 k4 else F_X12_ruleOf_b119 N (nI c) (nI i) (nI t) 0 5 k4) = F_X12_ruleOf_b119 N (nI c) (nI i) (nI t) (if mkN (gol q u S c) (q 0) = 0 then 1 else 0) 5 k4 := by
    by_cases z : mkN (gol q u S c) (q 0) = 0
    · rw [if_pos (by rw [z]; rfl), if_pos z]
    · rw [if_neg (fun y => z ((n_eq_l 0 gl (by omega)).mp y)), if_neg z]
  rw [fold4]
  unfold F_X12_ruleOf_b119
  rw [if_pos (by decide), show (5 : Int32).toNatClampNeg = 5 by decide, hb_e, if_pos (nI_in0 hc (by omega)), if_pos (by decide), show (6 : Int32).toNatClampNeg = 6 by decide, nI_clamp (by omega), hb_e]
  rw [if_pos (nI_in0 (by omega : i < 24) (by omega)), if_pos (by decide), show (7 : Int32).toNatClampNeg = 7 by decide, nI_clamp (by omega), hb_e, if_pos (by decide), show (8 : Int32).toNatClampNeg = 8 by decide, hb_e, if_pos (by decide), show (9 : Int32).toNatClampNeg = 9 by decide, hb_e, if_pos (by decide), show (10 : Int32).toNatClampNeg = 10 by decide, hb_e]
  rw [hs_o (show 145 ≠ 123 by omega), z4 145 (by omega), f5]
  rw [hs_o (show 137 ≠ 123 by omega), hs_o (show 137 ≠ 123 by omega), z4 137 (by omega), pi.2.1]
  rw [hs_o (show 138 ≠ 123 by omega), hs_o (show 138 ≠ 123 by omega), hs_o (show 138 ≠ 123 by omega), z4 138 (by omega), pi.2.2]
  generalize hk9 : hs (hs (hs (hs (hs (hs k4 123 5 (if mkN (gol q u S c) (q 0) = 0 then 1 else 0)) 123 6 (nI (fl S c))) 123 7 (nI (u 1 i))) 123 8 (nI (u 2 i))) 123 9 (nI c)) 123 10 (nI t) = k9
  have z9 : ∀ a, a ≠ 123 → k9.1 a = h.1 a := fun a e => by rw [← hk9, hs_o e, hs_o e, hs_o e, hs_o e, hs_o e, hs_o e, z4 a e]
  obtain ⟨x, h', e1, e2, e3⟩ := worth_x (l := 25) (k := 1000) (ψ := k9.1 123) (C := C) (h := k9) hN (by omega) (by rw [z9 106 (by omega)]; exact r2) (by rw [z9 107 (by omega)]; exact r3) (by omega) (fun _ _ => rfl) (fun t ht => by rw [z9 111 (by omega)]; exact r5 t ht) (r6 N (k9.1 123) (by omega))
  rw [show (25 : Int32) = nI 25 from rfl, e1, bI_s]
  refine ⟨x, h', rfl, ?_, fun a b y => ?_⟩
  · rw [e2]
    refine rc _ _ (fun a ha => ?_)
    rw [← hk9, ← hk4, ← hk3, ← hk1]
    have : a = 0 ∨ a = 1 ∨ a = 2 ∨ a = 3 ∨ a = 4 ∨ a = 5 ∨ a = 6 ∨ a = 7 ∨ a = 8 ∨ a = 9 := by omega
    rcases this with rfl | rfl | rfl | rfl | rfl | rfl | rfl | rfl | rfl | rfl <;> simp [hs_1, fcs]
  · rw [e3.1 a (by omega), z9 a (by omega)]
theorem gives_x {N : Nat} (hN : 5000 ≤ N) (hw : way = -1 ∨ 0 ≤ way) (Q : Qok q u) (K : Sok q S) (P : PqM q u h) (R : RwM v h) (rc : ∀ fa fb, (∀ a, a < 10 → fa a = fb a) → v fa = v fb) (T : TrM true S h) {i t : Nat} (hi : i < q 5) (ht : t < 900) : okV (F_X12_gives N (nI i) (nI t) way h) (fun h' => TrM true (su S 0 i (gcar q u v way t i S)) h' ∧ MF h h') := by
  have q5 : q 5 ≤ 24 := Q.2.2.2.2.2.2.2.2.1
  have q1 : 1 ≤ q 1 ∧ q 1 ≤ 2 := ⟨Q.2.2.1, Q.2.2.2.1⟩
  unfold F_X12_gives F_X12_gives_b12 F_X12_gives_b30 F_X12_gives_b63
  rw [P.2.1]
  have fin : ∀ k : PH, (∀ a b, a < 114 ∨ 123 < a → k.1 a b = h.1 a b) → ∀ x, x = gcar q u v way t i S → okV (if inb (nI i) 24 = true then hb (hs k 142 (nI i).toNatClampNeg x) (fun h2 => some h2) else none) (fun h' => TrM true (su S 0 i (gcar q u v way t i S)) h' ∧ MF h h') := fun k z x hx => by
    rw [if_pos (nI_in0 (by omega : i < 24) (by omega)), nI_clamp (by omega), hb_e, hx]
    exact okV_s ⟨TrM_s (k := 0) (by decide) (by decide) (by decide) (TrM_q T (fun a b y => z a b (by omega))), MF_s (fun a b y => z a b (by omega)) (by omega)⟩
  rcases hw with rfl | hw
  · rw [if_neg (show ¬ (0 : Int32) ≤ -1 by decide)]
    by_cases g : q 1 = 2
    · rw [if_neg (show ¬ nI (q 1) = 1 by rw [g]; decide)]
      obtain ⟨x1, h1, e1, rfl, f1⟩ := ruleM_x hN Q K P R rc T (c := 0) (by omega) hi ht
      rw [show (0 : Int32) = nI 0 from rfl, e1, bI_s]
      obtain ⟨x2, h2, e2, rfl, f2⟩ := ruleM_x hN Q K (PqM_q P (fun a b z => f1 a b (by omega))) (RwM_q R (fun a b z => f1 a b (by omega))) rc (TrM_q T (fun a b z => f1 a b (by omega))) (c := 1) (by omega) hi ht
      rw [show (1 : Int32) = nI 1 from rfl, e2, bI_s]
      have f12 : ∀ a b, a < 114 ∨ 123 < a → h2.1 a b = h.1 a b := fun a b z => (f2 a b z).trans (f1 a b z)
      by_cases y : v (fcs q u S 0 i t) ≤ v (fcs q u S 1 i t)
      · rw [if_pos y]
        exact fin h2 f12 _ (by unfold gcar; rw [if_pos rfl, if_pos g, if_neg (Int32.not_lt.mpr y)]; rfl)
      · rw [if_neg y]
        exact fin h2 f12 _ (by unfold gcar; rw [if_pos rfl, if_pos g, if_pos (Int32.not_le.mp y)]; rfl)
    · rw [if_pos (show nI (q 1) = 1 by rw [show q 1 = 1 by omega]; rfl), if_neg (show ¬ (0 : Int32) ≤ -1 by decide)]
      exact fin h (fun _ _ _ => rfl) _ (by unfold gcar; rw [if_pos rfl, if_neg g])
  · rw [if_pos hw, if_pos hw]
    refine fin h (fun _ _ _ => rfl) _ ?_
    unfold gcar
    rw [if_neg (fun z => by rw [z] at hw; exact absurd hw (by decide))]
end
