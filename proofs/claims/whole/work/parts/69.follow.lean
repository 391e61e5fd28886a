/-! tried() -/
section
variable {F N nv : Nat} {T : Nat → Int32 → Bool} {q : List ((Nat × Nat × Nat) × Nat × Nat × Nat)}
theorem narrows_x {j l lv K : Nat} {D : List Nat} {h : PH} (hN : 5000 ≤ N) (hF : F ≤ 6) (G : QG F q) (XX : XF F T q.length 0 q) (hj : j ≤ F) (hl : l < 256) (hv : lv < 3) (hK : K + 1 < 4294967296) (H : HdD q.length D) (A : AM F T q h) (X : XM F T q.length 0 q h) (Hm : HdM q (3072 * lv) lv D h) (S : StM K h) : okV (F_X12_narrows N (nI lv) (bu j) (nI l) h) (fun h' => HdM q (3072 * (lv + 1)) (lv + 1) (flw F T q j l D D.length) h' ∧ StM (K + 1) h' ∧ (∀ b, b < 3072 * (lv + 1) → h'.1 131 b = h.1 131 b) ∧ fq [131, 133] [(103, 50), (132, lv + 1)] h h') := by
  unfold F_X12_narrows
  rw [hb_e, S.1, nI_1, nI_1, show (3072 : Int32) = nI 3072 from rfl, pk_mul, ib_e]
  have f0 : fq [131, 133] [(103, 50), (132, lv + 1)] h (hs h 103 50 (nI (K + 1))) := fq_s fq_0 (Or.inr (by simp))
  refine okV_m (nar25 (N := N) (h0 := hs h 103 50 (nI (K + 1))) hF G XX hj hl hv hK H (AM_q A (fun a b z => f0 a b (by simp; omega) (by simp; omega))) (fun a b c d e => by rw [f0 129 _ (by simp) (by simp)]; exact X a b c d e) ⟨by rw [f0 132 lv (by simp) (by simp)]; exact Hm.1, fun t ht => by rw [hs_1, if_neg (by decide)]; exact Hm.2 t ht⟩ N 0 _ (Nat.zero_le _) (by omega) (by simp [hs_1]) (fun i hi => ?_) (fun y hy => ?_) (fun u hu => by simp [flw] at hu) (fun _ _ => rfl) fq_0) (fun k z => ⟨z.1, z.2.1, fun b hb' => ?_, fq_t f0 z.2.2.2⟩)
  · rw [hs_1, if_neg (by decide)]
    obtain ⟨m, hm, e⟩ := S.2 i hi
    exact ⟨m, by omega, e⟩
  · rw [hs_1, if_neg (by decide)]
    obtain ⟨m, hm, e⟩ := S.2 (msN (qS q y)) (ms_lt (G.1.1 y hy) hF)
    rw [e, nI_e32 (by omega) (by omega)]
    simp [flw]
    omega
  · rw [z.2.2.1 b hb', hs_1, if_neg (by decide)]
theorem fol20 {j l K : Nat} {D : List Nat} (hF : F ≤ 6) (G : QG F q) (XX : XF F T q.length 0 q) (hj : j ≤ F) (hl : l < 256) (H : HdD q.length D) : ∀ (k t : Nat) (h : PH), t ≤ D.length → 3072 < k + t → AC F T q h → XC F T q.length 0 q h → h.1 39 1 = nI D.length → h.1 39 13 = nI K → (∀ i, i < 3072 → ∃ m, m ≤ K ∧ h.1 43 i = nI m) → (∀ y, y < q.length → (h.1 43 y = nI K ↔ y ∈ flw F T q j l D t)) → (∀ u, u < (flw F T q j l D t).length → h.1 42 u = nI ((flw F T q j l D t).getD u 0)) → (∀ u, t ≤ u → u < D.length → h.1 42 u = nI (D.getD u 0)) → okI (F_X3_follow_b20 N k (nI j) (nI l) (nI (flw F T q j l D t).length) (nI t) h) (fun v h' => v = nI (flw F T q j l D D.length).length ∧ HdC (flw F T q j l D D.length) h' ∧ (∀ i, i < 3072 → ∃ m, m ≤ K ∧ h'.1 43 i = nI m) ∧ fq [42, 43] [(39, 1)] h h') := by
  have ql := QD_le G.1 hF
  have dl := HdD_le H
  intro k
  induction k with
  | zero => intro t h h1 h2; omega
  | succ k ih =>
    intro t h h1 h2 A X s0 s1 s2 s3 s4 s5
    obtain ⟨w1, w2, w3⟩ := flw_ok (T := T) (l := l) XX hj H t h1
    rw [F_X3_follow_b20, s0]
    by_cases g : D.length ≤ t
    · obtain rfl : t = D.length := by omega
      rw [if_pos (nI_le g (by omega))]
      unfold F_X3_follow_b101
      rw [hb_e]
      refine okI_s ⟨by simp [hs_1], ⟨by simp [hs_1], fun u hu => ?_⟩, fun i hi => ?_, fq_s fq_0 (Or.inr (by simp))⟩
      · rw [hs_1, if_neg (by decide)]; exact s4 u hu
      · rw [hs_1, if_neg (by decide)]; exact s2 i hi
    · have hd := H.1 t (by omega)
      have hb2 := bhn_lt XX hd hj
      rw [if_neg (nI_ge (by omega) (by omega)), if_pos (nI_in0 (by omega) (by omega)), nI_clamp (by omega), s5 t (Nat.le_refl _) (by omega), behind_x hF G A X hd hj, bI_s, show qIx q (nxt F T (qS q (D.getD t 0)) j).1 = bhn F T q j (D.getD t 0) from rfl, if_pos (nI_in0 (by omega) (by omega)), nI_clamp (by omega), s1]
      unfold F_X3_follow_b95
      have lq := lmp_lt (T := T) (s := qS q (bhn F T q j (D.getD t 0)))
      by_cases y : bhn F T q j (D.getD t 0) ∈ flw F T q j l D t
      · rw [if_pos ((s3 _ hb2).mpr y), ib_e, nI_1]
        have e : flw F T q j l D (t + 1) = flw F T q j l D t := by rw [flw, if_neg (fun c => c.2 y)]
        have := ih (t + 1) h (by omega) (by omega) A X s0 s1 s2 (by rw [e]; exact s3) (by rw [e]; exact s4) (fun u c1 c2 => s5 u (by omega) c2)
        rw [e] at this
        exact this
      · rw [if_neg (fun c => y ((s3 _ hb2).mp c)), lampsAt_x hF G A hb2, bI_s]
        by_cases z : lmp T (qS q (bhn F T q j (D.getD t 0))) = l
        · rw [if_pos (by rw [z]), if_pos (nI_in0 (by omega) (by omega)), hb_e, if_pos (nI_in0 (by omega) (by omega)), nI_clamp (by omega), hb_e, ib_e, ib_e, nI_1, nI_1, s1]
          have e : flw F T q j l D (t + 1) = flw F T q j l D t ++ [bhn F T q j (D.getD t 0)] := by rw [flw, if_pos ⟨z, y⟩]
          generalize hk : hs (hs h 43 (bhn F T q j (D.getD t 0)) (nI K)) 42 (flw F T q j l D t).length (nI (bhn F T q j (D.getD t 0))) = h2
          have f2 : fr [42, 43] h h2 := by rw [← hk]; exact fr_s (fr_s fr_0 (by simp)) (by simp)
          have c43 : ∀ i, h2.1 43 i = if i = bhn F T q j (D.getD t 0) then nI K else h.1 43 i := fun i => by rw [← hk, hs_1, if_neg (by decide), hs_1, if_pos rfl]
          have c42 : ∀ i, h2.1 42 i = if i = (flw F T q j l D t).length then nI (bhn F T q j (D.getD t 0)) else h.1 42 i := fun i => by rw [← hk, hs_1, if_pos rfl, hs_1, if_neg (show ¬ 42 = 43 by decide)]
          have := ih (t + 1) h2 (by omega) (by omega) (AC_q A (fun a b c => congrFun (f2 a (by simp; omega)) b)) (fun a b c d e => by rw [f2 36 (by simp)]; exact X a b c d e) (by rw [f2 39 (by simp)]; exact s0) (by rw [f2 39 (by simp)]; exact s1) (fun i hi => by
            rw [c43]
            by_cases c : i = bhn F T q j (D.getD t 0)
            · rw [if_pos c]; exact ⟨K, Nat.le_refl _, rfl⟩
            · rw [if_neg c]; exact s2 i hi) (fun v hv2 => by
            rw [e, c43, List.mem_append]
            by_cases c : v = bhn F T q j (D.getD t 0)
            · rw [if_pos c]; exact ⟨fun _ => Or.inr (List.mem_singleton.mpr c), fun _ => rfl⟩
            · rw [if_neg c, s3 v hv2]
              exact ⟨Or.inl, fun d => d.elim id (fun d => absurd (List.mem_singleton.mp d) c)⟩) (fun u hu => by
            rw [e] at hu ⊢
            rw [List.length_append, List.length_singleton] at hu
            rw [c42]
            by_cases c : u = (flw F T q j l D t).length
            · rw [if_pos c, c, getD_n]
            · rw [if_neg c, getD_l (by omega)]
              exact s4 u (by omega)) (fun u c1 c2 => by
            rw [c42, if_neg (by omega)]
            exact s5 u (by omega) c2)
          rw [e, List.length_append, List.length_singleton] at this
          exact okI_m this (fun v k y => ⟨y.1, y.2.1, y.2.2.1, fq_t (fq_fr f2) y.2.2.2⟩)
        · rw [if_neg (fun c => z ((nI_eq (by omega) (by omega)).mp c)), ib_e, nI_1]
          have e : flw F T q j l D (t + 1) = flw F T q j l D t := by rw [flw, if_neg (fun c => z c.1)]
          have := ih (t + 1) h (by omega) (by omega) A X s0 s1 s2 (by rw [e]; exact s3) (by rw [e]; exact s4) (fun u c1 c2 => s5 u (by omega) c2)
          rw [e] at this
          exact this
theorem tr51 {R : List Nat} (hr : R.length ≤ 3072) : ∀ (k t : Nat) (h : PH), t ≤ R.length → 3072 < k + t → HdM q 3072 1 R h → (∀ u, u < t → h.1 131 u = nI (msN (qS q (R.getD u 0)))) → okI (F_X12_tried_b51 N k (nI t) h) (fun v h' => v = nI R.length ∧ HdM q 0 0 R h' ∧ fq [131] [(132, 0)] h h') := by
  intro k
  induction k with
  | zero => intro t h h1 h2; omega
  | succ k ih =>
    intro t h h1 h2 Hm s
    have c1 : (1 : Int32).toNatClampNeg = 1 := rfl
    have c0 : (0 : Int32).toNatClampNeg = 0 := rfl
    rw [F_X12_tried_b51, if_pos (show inb (1 : Int32) 4 = true by decide), c1, Hm.1]
    by_cases g : R.length ≤ t
    · obtain rfl : t = R.length := by omega
      rw [if_pos (nI_le g (by omega))]
      unfold F_X12_tried_b83
      rw [if_pos (by decide), if_pos (by decide), hb_e, c0, c1, Hm.1]
      refine okI_s ⟨by simp [hs_1], ⟨by simp [hs_1], fun u hu => ?_⟩, fq_s fq_0 (Or.inr (by simp))⟩
      rw [hs_1, if_neg (by decide), Nat.zero_add]
      exact s u hu
    · rw [if_neg (nI_ge (by omega) (by omega)), show (3072 : Int32) = nI 3072 from rfl, nI_add, if_pos (nI_in0 (by omega) (by omega)), if_pos (nI_in0 (by omega) (by omega)), nI_clamp (by omega), nI_clamp (by omega), hb_e, ib_e, nI_1, Hm.2 t (by omega)]
      refine okI_m (ih (t + 1) _ (by omega) (by omega) ⟨by rw [hs_1, if_neg (by decide)]; exact Hm.1, fun u hu => by rw [hs_1, if_pos rfl, if_neg (by omega)]; exact Hm.2 u hu⟩ (fun u hu => ?_)) (fun v k y => ⟨y.1, y.2.1, fq_t (fq_s fq_0 (Or.inl (by simp))) y.2.2⟩)
      rw [hs_1, if_pos rfl]
      by_cases c : u = t
      · rw [if_pos c, c]
      · rw [if_neg c]; exact s u (by omega)
end
