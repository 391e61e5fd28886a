/-! the way of a car -/
section
def wl (g y : Int32) : Nat → Nat → Int32
  | 0, _ => 0
  | m + 1, far => if ((g >>> ((y + nI far) &&& 31)) &&& 1) = 0 then (if y < nI far then wl g y m (far + 1) else if ((g >>> ((y - nI far) &&& 31)) &&& 1) = 0 then wl g y m (far + 1) else -1) else 1
theorem wl_x {N : Nat} {g y : Int32} {h : PH} : ∀ m far fuel, far + m = 6 → m < fuel → F_X10_wayTo_b53 N fuel g y (nI far) h = some (wl g y m far, h) := by
  intro m
  induction m with
  | zero =>
    intro far fuel e1 e2
    obtain ⟨fu, rfl⟩ : ∃ g, fuel = g + 1 := ⟨fuel - 1, by omega⟩
    rw [F_X10_wayTo_b53, show far = 6 by omega, if_pos (by decide)]
    rfl
  | succ m ih =>
    intro far fuel e1 e2
    obtain ⟨fu, rfl⟩ : ∃ g, fuel = g + 1 := ⟨fuel - 1, by omega⟩
    have i1 := ih (far + 1) fu (by omega) (by omega)
    rw [F_X10_wayTo_b53, if_neg (fun z => by have := (l_le_n 6 (by omega) (by omega)).mp z; omega), wl]
    unfold F_X10_wayTo_b92
    simp only [ib_e, nI_1]
    rw [i1]
    by_cases g1 : ((g >>> ((y + nI far) &&& 31)) &&& 1) = 0
    · rw [if_pos g1, if_pos g1]
      by_cases g2 : y < nI far
      · rw [if_pos g2, if_pos g2]
      · rw [if_neg g2, if_neg g2]
        by_cases g3 : ((g >>> ((y - nI far) &&& 31)) &&& 1) = 0
        · rw [if_pos g3, if_pos g3]
        · rw [if_neg g3, if_neg g3]
    · rw [if_neg g1, if_neg g1]
def wc (g y w : Int32) : Int32 := if 0 < w ∧ ¬ (g >>> ((y + 1) &&& 31)) = 0 then w else if w < 0 ∧ ¬ (g &&& (((1 : Int32) <<< (y &&& 31)) - 1)) = 0 then w else wl g y 5 1
theorem wayTo_c {N : Nat} (hN : 100 ≤ N) {g y w : Int32} {h : PH} : F_X10_wayTo N g y w h = some (wc g y w, h) := by
  have w1 : F_X10_wayTo_b53 N N g y 1 h = some (wl g y 5 1, h) := wl_x (N := N) (g := g) (y := y) (h := h) 5 1 N (by omega) (by omega)
  unfold F_X10_wayTo F_X10_wayTo_b13 F_X10_wayTo_b29 F_X10_wayTo_b39 F_X10_wayTo_b50 wc
  rw [w1]
  have l0 : ∀ {a : Int32}, (a ≤ 0) = ¬ (0 < a) := fun {a} => propext Int32.not_lt.symm
  have l1 : ∀ {a : Int32}, (0 ≤ a) = ¬ (a < 0) := fun {a} => propext Int32.not_lt.symm
  by_cases g1 : (g >>> ((y + 1) &&& 31)) = 0
  · by_cases g2 : (g &&& (((1 : Int32) <<< (y &&& 31)) - 1)) = 0
    · simp [g1, g2]
    · by_cases g3 : w < 0
      · have g4 : ¬ 0 < w := fun z => Int32.lt_irrefl (Int32.lt_trans z g3)
        simp [g1, g2, g3, l0, l1, g4]
      · simp [g1, g2, g3, l1]
  · by_cases g2 : (g &&& (((1 : Int32) <<< (y &&& 31)) - 1)) = 0
    · by_cases g3 : 0 < w
      · simp [g1, g2, g3, l0]
      · simp [g1, g2, g3, l0]
    · by_cases g3 : 0 < w
      · simp [g1, g2, g3, l0]
      · by_cases g4 : w < 0
        · simp [g1, g2, g3, g4, l0, l1]
        · simp [g1, g2, g3, g4, l0, l1]
def wcB (F g y w : Nat) : Bool := !(decide (g < 2 ^ F) && (decide (y < F) && (!decide (g = 0) && !g.testBit y))) || (decide (wc (nI g) (nI y) (nI w - 1) = wyN F g y (nI w - 1)) && ((decide (wyN F g y (nI w - 1) = 1) && decide (y + 1 < F)) || (decide (wyN F g y (nI w - 1) = -1) && decide (0 < y))))
theorem wcB_d : ∀ F, F < 7 → ∀ g, g < 64 → ∀ y, y < 6 → ∀ w, w < 3 → wcB F g y w = true := by decide +kernel
theorem wc_d {F g y w : Nat} (hF : F < 7) (hg : g < 64) (hy : y < 6) (hw : w < 3) (k1 : g < 2 ^ F) (k2 : y < F) (k3 : ¬ g = 0) (k4 : g.testBit y = false) : wc (nI g) (nI y) (nI w - 1) = wyN F g y (nI w - 1) ∧ ((wyN F g y (nI w - 1) = 1 ∧ y + 1 < F) ∨ (wyN F g y (nI w - 1) = -1 ∧ 0 < y)) := by
  have := wcB_d F hF g hg y hy w hw
  unfold wcB at this
  rw [decide_eq_true k1, decide_eq_true k2, decide_eq_false k3, k4] at this
  simpa using this
end
section
variable {q : Nat → Nat} {u : Nat → Nat → Nat} {v : (Nat → Int32) → Int32} {way : Int32} {S : TSt} {o t : Nat} {h h' h2 : PH}
theorem gol_0 (Q : Qok q u) {c : Nat} : mkN (gol q u S c) (q 0) = 0 ↔ ∀ i, i < q 5 → (ins S c i || wtg S c i) = false := by
  obtain ⟨q0, q0', q1, q1', q2, q2', q3, q4, q5, q6, q7, qp, qh⟩ := Q
  rw [mkN_0 (by omega)]
  constructor
  · intro z
    have a : ∀ i, i < q 5 → ins S c i = false := fun i hi => by
      have := z (u 2 i) (qp i hi).2.2.1
      unfold gol at this
      have := exn_f.mp this i hi
      simp at this
      exact this.1
    have l0 : lod (q 5) S c = 0 := fb_ct_zero.mpr a
    intro i hi
    have := z (u 1 i) (qp i hi).2.1
    unfold gol at this
    have := exn_f.mp this i hi
    rw [l0, decide_eq_true (show 0 < q 2 by omega)] at this
    simp at this
    rw [a i hi, this.2]
    rfl
  · intro z f hf
    unfold gol
    rw [exn_f]
    intro i hi
    have := z i hi
    simp at this
    rw [this.1, this.2]
    simp
theorem gol_h {c : Nat} (m : mst q u S c = false) : gol q u S c (fl S c) = false := by
  unfold mst at m
  simp at m
  obtain ⟨m1, m2⟩ := m
  have m1 := exn_f.mp m1
  unfold gol
  rw [exn_f]
  intro i hi
  have a := m1 i hi
  rw [a]
  by_cases g : lod (q 5) S c < q 2
  · rcases Bool.eq_false_or_eq_true (exn (q 5) (fun i => wtg S c i && decide (u 1 i = fl S c))) with y | y
    · have := m2 y
      omega
    · rw [exn_f.mp y i hi]
      simp
  · simp [g]
theorem head_ok (Q : Qok q u) (K : Sok q S) {c : Nat} (hc : c < 2) {w : Int32} (hw : (w = 1 ∧ fl S c + 1 < q 0) ∨ (w = -1 ∧ 0 < fl S c)) : Sok q (sHead w c S) := by
  have q06 : q 0 ≤ 6 := Q.2.1
  have fy := (K.1 c hc).1
  unfold sHead
  refine ok_mv hc ?_ q06 (ok_7 ?_ K)
  · rcases hw with ⟨rfl, z⟩ | ⟨rfl, z⟩
    · rw [if_pos rfl]; exact z
    · rw [if_neg (by decide)]; omega
  · rcases hw with ⟨rfl, z⟩ | ⟨rfl, z⟩
    · exact Or.inr (Or.inl rfl)
    · exact Or.inr (Or.inr rfl)
theorem park_ok (Q : Qok q u) (K : Sok q S) {c : Nat} (hc : c < 2) : Sok q (sPark q c S) := by
  have q06 : q 0 ≤ 6 := Q.2.1
  have q4 : q 4 < q 0 := Q.2.2.2.2.2.2.2.1
  have fy := (K.1 c hc).1
  unfold sPark
  by_cases g : fl S c = q 4
  · rw [if_pos g]; exact K
  · rw [if_neg g]
    refine ok_mv hc ?_ q06 K
    by_cases g2 : fl S c < q 4
    · rw [if_pos g2]; omega
    · rw [if_neg g2]; omega
theorem way_ok (Q : Qok q u) (K : Sok q S) {c : Nat} (hc : c < 2) (m : mst q u S c = false) (g0 : ¬ mkN (gol q u S c) (q 0) = 0) : wc (nI (mkN (gol q u S c) (q 0))) (nI (fl S c)) (S 7 c) = wyN (q 0) (mkN (gol q u S c) (q 0)) (fl S c) (S 7 c) ∧ ((wyN (q 0) (mkN (gol q u S c) (q 0)) (fl S c) (S 7 c) = 1 ∧ fl S c + 1 < q 0) ∨ (wyN (q 0) (mkN (gol q u S c) (q 0)) (fl S c) (S 7 c) = -1 ∧ 0 < fl S c)) := by
  have q06 : q 0 ≤ 6 := Q.2.1
  have fy := (K.1 c hc).1
  obtain ⟨w, w1, w2⟩ := w3 (K.1 c hc).2.2.1
  have gl := mkN_lt (P := gol q u S c) (q 0)
  have p6 : 2 ^ q 0 ≤ 2 ^ 6 := Nat.pow_le_pow_right (by decide) q06
  rw [w2]
  exact wc_d (by omega) (by omega) (by omega) w1 gl fy g0 (by rw [mkN_bit, gol_h m]; simp)
theorem go_ok (Q : Qok q u) (K : Sok q S) {c : Nat} (hc : c < 2) (m : mst q u S c = false) : Sok q (sGo q u c S) := by
  unfold sGo
  by_cases g : mkN (gol q u S c) (q 0) = 0
  · rw [if_pos g]; exact park_ok Q (ok_7 (Or.inl rfl) K) hc
  · rw [if_neg g]; exact head_ok Q K hc (way_ok Q K hc m g).2
theorem goC_x {N c : Nat} (hN : 100 ≤ N) (ho : 64 ≤ o) (hc : c < 2) (Q : Qok q u) (K : Sok q S) (P : PqC q u h) (T : TrC q u o S h) (m : mst q u S c = false) : okV (F_X10_go N o (nI c) h) (fun h' => TrC q u o (sGo q u c S) h' ∧ TF o h h') := by
  have q06 : q 0 ≤ 6 := Q.2.1
  have q5 : q 5 ≤ 24 := Q.2.2.2.2.2.2.2.2.1
  have q4 : q 4 < q 0 := Q.2.2.2.2.2.2.2.1
  have fy := (K.1 c hc).1
  have z0 : ((h.1 (o + 12) c) ||| (h.1 (o + 13) c)) = 0 ↔ mkN (gol q u S c) (q 0) = 0 := by
    rw [Mk_0i (by omega) (Mk_or (T.2.2.2.1 c hc).1 (T.2.2.2.1 c hc).2), gol_0 Q]
  unfold F_X10_go sGo
  rw [if_pos (nI_in0 hc (by omega)), nI_clamp (by omega)]
  by_cases g : mkN (gol q u S c) (q 0) = 0
  · rw [if_pos (z0.mpr g), if_pos g, if_pos (nI_in0 hc (by omega)), hb_e]
    have f1 : TF o h (hs h (o + 10) c 0) := TF_s TF_0 (by omega) ho
    have T1 : TrC q u o (su S 7 c 0) (hs h (o + 10) c 0) := TrC_s (k := 7) (by decide) (by decide) T
    have K1 : Sok q (su S 7 c 0) := ok_7 (Or.inl rfl) K
    have P1 := PqC_t ho P f1
    have fe : fl (su S 7 c 0) c = fl S c := fl_o (by decide)
    rw [P1.2.2.2.2.1, r_f T1 K1 hc, fe]
    unfold F_J6_compare_7cf53 sPark
    rw [fe]
    by_cases g2 : fl S c = q 4
    · rw [if_pos (nI_le (by omega) (by omega)), if_pos (by rw [g2]), bI_s, if_pos g2]
      unfold F_X10_move
      rw [if_pos (nI_in0 hc (by omega)), ib_e, if_pos rfl, bV_s]
      exact okV_s ⟨T1, f1⟩
    · rw [if_neg g2]
      by_cases g3 : fl S c < q 4
      · rw [if_pos (nI_le (by omega) (by omega)), if_neg (fun z => g2 ((nI_eq (by omega) (by omega)).mp z).symm), bI_s, if_pos g3]
        obtain ⟨h', e1, e2, e3⟩ := move_x ho Q K1 P1 T1 (w := 1) (y := fl S c + 1) hc (by omega) (by decide) (by rw [fe, nI_1]) (by omega)
        rw [e1, bV_s]
        exact okV_s ⟨e2, TF_t f1 e3⟩
      · rw [if_neg (nI_ge (by omega) (by omega)), bI_s, if_neg g3]
        obtain ⟨h', e1, e2, e3⟩ := move_x ho Q K1 P1 T1 (w := -1) (y := fl S c - 1) hc (by omega) (by decide) (by
          have := pk_m1 (fl S c - 1)
          rw [show fl S c - 1 + 1 = fl S c by omega] at this
          rw [fe]
          exact this) (by omega)
        rw [e1, bV_s]
        exact okV_s ⟨e2, TF_t f1 e3⟩
  · have wk := way_ok Q K hc m g
    rw [if_neg (fun z => g (z0.mp z)), if_neg g, hasRoom_x Q K P T hc, bI_s, goalsC_x (by omega) Q P T hc, bI_s, if_pos (nI_in0 hc (by omega)), r_f T K hc, r_7 T, wayTo_c hN, bI_s, wk.1, hb_e]
    generalize hw : wyN (q 0) (mkN (gol q u S c) (q 0)) (fl S c) (S 7 c) = w at wk ⊢
    have f1 : TF o h (hs h (o + 10) c w) := TF_s TF_0 (by omega) ho
    have T1 : TrC q u o (su S 7 c w) (hs h (o + 10) c w) := TrC_s (k := 7) (by decide) (by decide) T
    have P1 := PqC_t ho P f1
    have fe : fl (su S 7 c w) c = fl S c := fl_o (by decide)
    rw [r_7 T1, su_s, pk_us]
    unfold sHead
    rcases wk.2 with ⟨rfl, z⟩ | ⟨rfl, z⟩
    · obtain ⟨h', e1, e2, e3⟩ := move_x ho Q (ok_7 (Or.inr (Or.inl rfl)) K) P1 T1 (w := 1) (y := fl S c + 1) hc (by omega) (by decide) (by rw [fe, nI_1]) (by omega)
      rw [e1, bV_s, if_pos rfl]
      exact okV_s ⟨e2, TF_t f1 e3⟩
    · obtain ⟨h', e1, e2, e3⟩ := move_x ho Q (ok_7 (Or.inr (Or.inr rfl)) K) P1 T1 (w := -1) (y := fl S c - 1) hc (by omega) (by decide) (by
        have := pk_m1 (fl S c - 1)
        rw [show fl S c - 1 + 1 = fl S c by omega] at this
        rw [fe]
        exact this) (by omega)
      rw [e1, bV_s, if_neg (by decide)]
      exact okV_s ⟨e2, TF_t f1 e3⟩
theorem burns_x (hq : q 7 ≤ 900) (ht : t < 2147483647) (P : h.1 51 14 = bu (q 7)) : F_X6_burns (nI t) h = some (if brn (q 7) t = true then 1 else 0, h) := by
  unfold F_X6_burns F_X6_burns_b20 brn
  rw [P]
  cases hf : q 7 with
  | zero => rw [if_pos (by decide)]; rfl
  | succ f =>
    rw [show bu (f + 1) = nI f from rfl, if_neg (n_eq_m1 (by omega))]
    by_cases g : t < f
    · rw [if_pos (nI_lt g (by omega)), if_neg (by simp; omega)]
    · rw [if_neg (nI_nlt (by omega) (by omega)), if_pos (by simp; omega)]
theorem act_ok (Q : Qok q u) (K : Sok q S) {c : Nat} (ht : t < 900) (hc : c < q 1) : Sok q (sAct q u t c S) := by
  have q06 : q 0 ≤ 6 := Q.2.1
  have q12 : q 1 ≤ 2 := Q.2.2.2.1
  have hc2 : c < 2 := by omega
  have fy := (K.1 c hc2).1
  unfold sAct
  by_cases g1 : S 8 c ≤ 0
  · rw [if_pos g1]
    by_cases g2 : brn (q 7) t = true
    · rw [if_pos g2]
      unfold sFlee
      by_cases g3 : fl S c = 0
      · rw [if_pos g3]; exact let_ok (c := c) (by omega) K (fun _ _ z => z)
      · rw [if_neg g3]; exact ok_mv hc2 (by omega) q06 K
    · rw [if_neg g2]
      by_cases g3 : mst q u S c = true
      · rw [if_pos g3]
        unfold sStop sDoor
        refine ok_o (by decide) (by decide) (by decide) (by decide) (ok_8 (fun z => absurd z (by omega)) ?_)
        exact brd_ok hc2 (by omega) (let_ok (c := c) (by omega) K (fun i _ z => by simp at z; exact z.1)) (q 5) (Nat.le_refl _)
      · rw [if_neg g3]; exact go_ok Q K hc2 (by simpa using g3)
  · rw [if_neg g1]; exact ok_8 (fun z => absurd z (by omega)) K
theorem actC_x {N c : Nat} (hN : 100 ≤ N) (ho : 64 ≤ o) (ht : t < 900) (hc : c < q 1) (Q : Qok q u) (K : Sok q S) (P : PqC q u h) (T : TrC q u o S h) : okV (F_X10_act N o (nI c) (nI t) h) (fun h' => TrC q u o (sAct q u t c S) h' ∧ TF o h h') := by
  have q12 : q 1 ≤ 2 := Q.2.2.2.1
  have q7 : q 7 ≤ 900 := Q.2.2.2.2.2.2.2.2.2.2.1
  have hc2 : c < 2 := by omega
  unfold F_X10_act sAct
  rw [if_pos (nI_in0 hc2 (by omega)), nI_clamp (by omega), r_8 T, burns_x q7 (by omega) P.2.2.2.2.2.2.2.1, bI_s, stopsHere_x hc2 Q K P T, bI_s]
  by_cases g1 : S 8 c ≤ 0
  · rw [if_pos g1, if_pos g1]
    by_cases g2 : brn (q 7) t = true
    · rw [if_pos g2, if_neg one10, if_pos g2]
      obtain ⟨h', e1, e2⟩ := fleeC_x hN ho hc2 ht Q K P T
      rw [e1, bV_s]
      exact okV_s e2
    · rw [if_neg g2, if_pos rfl, if_neg g2]
      by_cases g3 : mst q u S c = true
      · rw [if_pos g3, if_neg one10, if_pos g3]
        obtain ⟨h', e1, e2⟩ := stopC_x hN ho hc2 ht Q K P T
        rw [e1, bV_s]
        exact okV_s e2
      · rw [if_neg g3, if_pos rfl, if_neg g3]
        obtain ⟨h', e1, e2⟩ := goC_x hN ho hc2 Q K P T (by simpa using g3)
        rw [e1, bV_s]
        exact okV_s e2
  · rw [if_neg g1, if_neg g1, if_pos (nI_in0 hc2 (by omega)), hb_e]
    exact okV_s ⟨TrC_s (k := 8) (by decide) (by decide) T, TF_s TF_0 (by omega) ho⟩
theorem mv_0 {c y : Nat} : sMv S c y 0 = S 0 := by
  unfold sMv
  rw [su_o (by decide), su_o (by omega)]
theorem act_0 {c : Nat} : sAct q u t c S 0 = S 0 := by
  unfold sAct sFlee sStop sDoor sOut sGo sPark sHead
  split
  · split
    · split
      · rw [let_o (by decide)]
      · exact mv_0
    · split
      · rw [su_o (by decide), su_o (by decide), brd_o (by decide), let_o (by decide)]
      · split
        · split
          · rw [su_o (by decide)]
          · rw [mv_0, su_o (by decide)]
        · rw [mv_0, su_o (by decide)]
  · rw [su_o (by decide)]
theorem acts_0 : ∀ k, sActs q u t k S 0 = S 0 := by
  intro k
  induction k with
  | zero => rfl
  | succ k ih => rw [sActs, act_0, ih]
theorem acts_ok (Q : Qok q u) (K : Sok q S) (ht : t < 900) : ∀ k, k ≤ q 1 → Sok q (sActs q u t k S) := by
  intro k
  induction k with
  | zero => intro _; exact K
  | succ k ih => intro hk; exact act_ok Q (ih (by omega)) ht (by omega)
end
