/-! the reference's beginning -/
section
variable {q : Nat → Nat} {u : Nat → Nat → Nat} {v : (Nat → Int32) → Int32} {way : Int32} {S : TSt} {b : Bool} {t : Nat} {h h' h2 : PH}
theorem rb_2 {N : Nat} {G : PH → Prop} {h0 : PH} (fin : ∀ h, (∀ j, j < 24 → h.1 142 j = -1 ∧ h.1 143 j = -1 ∧ h.1 144 j = -1) → MG h0 h → okV (F_X12_runs_b35 N way h) G) : ∀ m i fuel h, i + m = 24 → m < fuel → (∀ j, j < i → h.1 142 j = -1 ∧ h.1 143 j = -1 ∧ h.1 144 j = -1) → MG h0 h → okV (F_X12_runs_b2 N fuel way (nI i) h) G := by
  intro m
  induction m with
  | zero =>
    intro i fuel h e1 e2 A f
    obtain ⟨fu, rfl⟩ : ∃ g, fuel = g + 1 := ⟨fuel - 1, by omega⟩
    rw [F_X12_runs_b2, show i = 24 by omega, if_pos (by decide)]
    exact fin h (fun j hj => A j (by omega)) f
  | succ m ih =>
    intro i fuel h e1 e2 A f
    obtain ⟨fu, rfl⟩ : ∃ g, fuel = g + 1 := ⟨fuel - 1, by omega⟩
    rw [F_X12_runs_b2, if_neg (fun z => by have := (l_le_n 24 (by omega) (by omega)).mp z; omega), if_pos (nI_in0 (by omega : i < 24) (by omega)), nI_clamp (by omega), hb_e, hb_e, hb_e, ib_e, nI_1]
    refine ih (i + 1) fu _ (by omega) (by omega) (fun j hj => ?_) (MG_s (MG_s (MG_s f (by omega)) (by omega)) (by omega))
    by_cases e : j = i
    · subst e; simp [hs_1]
    · simp [hs_1, e]; exact A j (by omega)
theorem rb_78 {N : Nat} {G : PH → Prop} {h0 : PH} (fin : ∀ h, (∀ j, j < 10 → h.1 148 j = 0) → (∀ a c, a ≠ 148 → h.1 a c = h0.1 a c) → okV (F_X12_runs_b97 N way h) G) : ∀ m i fuel h, i + m = 10 → m < fuel → (∀ j, j < i → h.1 148 j = 0) → (∀ a c, a ≠ 148 → h.1 a c = h0.1 a c) → okV (F_X12_runs_b78 N fuel way (nI i) h) G := by
  intro m
  induction m with
  | zero =>
    intro i fuel h e1 e2 A f
    obtain ⟨fu, rfl⟩ : ∃ g, fuel = g + 1 := ⟨fuel - 1, by omega⟩
    rw [F_X12_runs_b78, show i = 10 by omega, if_pos (by decide)]
    exact fin h (fun j hj => A j (by omega)) f
  | succ m ih =>
    intro i fuel h e1 e2 A f
    obtain ⟨fu, rfl⟩ : ∃ g, fuel = g + 1 := ⟨fuel - 1, by omega⟩
    rw [F_X12_runs_b78, if_neg (fun z => by have := (l_le_n 10 (by omega) (by omega)).mp z; omega), if_pos (nI_in0 (by omega : i < 10) (by omega)), nI_clamp (by omega), hb_e, ib_e, nI_1]
    refine ih (i + 1) fu _ (by omega) (by omega) (fun j hj => ?_) (fun a c z => by rw [hs_o z]; exact f a c z)
    by_cases e : j = i
    · subst e; simp [hs_1]
    · simp [hs_1, e]; exact A j (by omega)
theorem rb_37 {N : Nat} : ∀ fuel h, 3 ≤ fuel → F_X12_runs_b37 N fuel way 0 h = F_X12_runs_b76 N way (hs (hs (hs (hs (hs (hs (hs (hs h 145 0 0) 146 0 0) 147 0 0) 149 0 0) 145 1 0) 146 1 0) 147 1 0) 149 1 0) := by
  intro fuel h hf
  obtain ⟨f, rfl⟩ : ∃ f, fuel = f + 3 := ⟨fuel - 3, by omega⟩
  rw [F_X12_runs_b37, if_neg (by decide), if_pos (by decide), hb_e, hb_e, hb_e, hb_e, ib_e, show (0 : Int32) + 1 = 1 by decide, F_X12_runs_b37, if_neg (by decide), if_pos (by decide), hb_e, hb_e, hb_e, hb_e, ib_e, show (1 : Int32) + 1 = 2 by decide, F_X12_runs_b37, if_pos (by decide), show (0 : Int32).toNatClampNeg = 0 by decide, show (1 : Int32).toNatClampNeg = 1 by decide]
theorem runsM_x {N : Nat} (hN : 5000 ≤ N) (hw : way = -1 ∨ 0 ≤ way) (Q : Qok q u) (rc : ∀ fa fb, (∀ a, a < 10 → fa a = fb a) → v fa = v fb) (P : PqM q u h) (R : RwM v h) {S0 : TSt} (I : Ini S0) : okV (F_X12_runs N way h) (fun h' => (∃ b, TrM b (sAll q u v way S0).1 h') ∧ h'.1 103 74 = (sAll q u v way S0).2 ∧ MG h h') := by
  have q5 : q 5 ≤ 24 := Q.2.2.2.2.2.2.2.2.1
  refine rb_2 (N := N) (h0 := h) ?_ 24 0 N h (by omega) (by omega) (fun j hj => by omega) MG_0
  intro k1 A1 f1
  unfold F_X12_runs_b35
  rw [rb_37 N _ (by omega)]
  generalize hk2 : hs (hs (hs (hs (hs (hs (hs (hs k1 145 0 0) 146 0 0) 147 0 0) 149 0 0) 145 1 0) 146 1 0) 147 1 0) 149 1 0 = k2
  have f2 : MG h k2 := by
    rw [← hk2]
    exact MG_s (MG_s (MG_s (MG_s (MG_s (MG_s (MG_s (MG_s f1 (by omega)) (by omega)) (by omega)) (by omega)) (by omega)) (by omega)) (by omega)) (by omega)
  have A2 : ∀ j, j < 24 → k2.1 142 j = -1 ∧ k2.1 143 j = -1 ∧ k2.1 144 j = -1 := fun j hj => by
    rw [← hk2]; simp [hs_1]; exact A1 j hj
  have B2 : ∀ k, k < 2 → k2.1 145 k = 0 ∧ k2.1 146 k = 0 ∧ k2.1 147 k = 0 ∧ k2.1 149 k = 0 := fun k hk => by
    have : k = 0 ∨ k = 1 := by omega
    rw [← hk2]
    rcases this with rfl | rfl <;> simp [hs_1]
  unfold F_X12_runs_b76
  refine rb_78 (N := N) (h0 := k2) ?_ 10 0 N k2 (by omega) (by omega) (fun j hj => by omega) (fun _ _ _ => rfl)
  intro k3 A3 f3
  have f13 : MG h k3 := MG_t f2 (fun a c z => f3 a c (by omega))
  have P3 : PqM q u k3 := PqM_q P (fun a c z => f13 a c (by omega))
  have R3 : RwM v k3 := RwM_q R (fun a c z => f13 a c (by omega))
  have T3 : TrM true S0 k3 := by
    refine ⟨fun i hi => ?_, fun k hk => ?_, fun k hk j hj => ?_⟩
    · obtain ⟨a1, a2, a3⟩ := I.1 i hi
      rw [f3 _ _ (by decide), f3 _ _ (by decide), f3 _ _ (by decide), a1, a2, a3]
      exact A2 i hi
    · obtain ⟨a1, a2, a3, a4, -⟩ := I.2 k hk
      obtain ⟨b1, b2, b3, b4⟩ := B2 k hk
      rw [f3 _ _ (by decide), f3 _ _ (by decide), f3 _ _ (by decide), f3 _ _ (by decide), a1, a2, a3, a4, b1, b2, b3, b4]
      exact ⟨rfl, rfl, rfl, fun _ => rfl⟩
    · rw [A3 _ (by omega), (I.2 k hk).2.2.2.2 j hj]
  unfold F_X12_runs_b97 F_X12_runs_b110 sAll
  rw [P3.2.2.2.2.2.1, hb_e, hb_e]
  by_cases g : q 5 = 0
  · rw [if_pos (by rw [g]; rfl), if_pos g]
    obtain ⟨N', rfl⟩ : ∃ n, N = n + 1 := ⟨N - 1, by omega⟩
    rw [F_X12_runs_b115, if_neg (by decide), if_pos (by simp [hs_1])]
    exact okV_s ⟨⟨true, TrM_q T3 (fun a c z => by rw [hs_o (by omega)])⟩, by simp [hs_1], MG_s f13 (by omega)⟩
  · rw [if_neg (fun z => g ((n_eq_l 0 (by omega) (by omega)).mp z)), if_neg g]
    have f4 : MG h (hs k3 103 74 (-1)) := MG_s f13 (by omega)
    have T4 : TrM true S0 (hs k3 103 74 (-1)) := TrM_q T3 (fun a c z => by rw [hs_o (by omega)])
    exact okV_m (run_115 (v := v) hN hw Q rc 900 0 N _ S0 (by omega) (by omega) (TrM_b T4 (fun _ => rfl)) (PqM_q P (fun a c z => f4 a c (by omega))) (RwM_q R (fun a c z => f4 a c (by omega))) (ini_ok Q I) (ini_un Q I) (by simp [hs_1])) (fun h' z => ⟨z.1, z.2.1, MG_t f4 z.2.2⟩)
end
/-! nobody waits less than nothing -/
def Tin (q : Nat → Nat) (u : Nat → Nat → Nat) (S : TSt) : Prop := ∀ i, i < q 5 → S 1 i = -1 ∨ ∃ w, u 0 i ≤ w ∧ w < 900 ∧ S 1 i = nI w
section
variable {q : Nat → Nat} {u : Nat → Nat → Nat} {v : (Nat → Int32) → Int32} {way : Int32} {S : TSt} {b : Bool} {t : Nat} {h h' h2 : PH}
theorem tin_o {S' : TSt} (I : Tin q u S) (e : S' 1 = S 1) : Tin q u S' := fun i hi => by rw [e]; exact I i hi
theorem tin_brd {c : Nat} (hc : c < 2) (ht : t < 900) (I : Tin q u S) (G : ∀ i, i < q 5 → t < u 0 i → S 0 i = -1) : ∀ k, k ≤ q 5 → Tin q u (sBrd q u c t k S) := by
  intro k
  induction k with
  | zero => intro _; exact I
  | succ k ih =>
    intro hk
    have Ik := ih (by omega)
    unfold sBrd
    by_cases g : sBr q u c k (sBrd q u c t k S) = true
    · rw [if_pos g]
      intro i hi
      rw [su_s]
      by_cases e : i = k
      · subst e
        rw [pk_us]
        refine Or.inr ⟨t, ?_, ht, rfl⟩
        unfold sBr at g
        simp at g
        have w := (of_decide_eq_true g.2.1).1
        rw [brd_o (by decide)] at w
        by_cases z : t < u 0 i
        · rw [G i hi z] at w
          exact absurd w.symm (n_eq_m1 (by omega))
        · omega
      · rw [pk_un e]; exact Ik i hi
    · rw [if_neg g]; exact Ik
theorem mv_1 {c y : Nat} : sMv S c y 1 = S 1 := by
  unfold sMv
  rw [su_o (by decide), su_o (by omega)]
theorem tin_act {c : Nat} (hc : c < 2) (ht : t < 900) (I : Tin q u S) (G : ∀ i, i < q 5 → t < u 0 i → S 0 i = -1) : Tin q u (sAct q u t c S) := by
  unfold sAct sFlee sGo sPark sHead
  split
  · split
    · split
      · exact tin_o I (let_o (by decide))
      · exact tin_o I mv_1
    · split
      · unfold sStop sDoor sOut
        refine tin_o (S := sBrd q u c t (q 5) (sLet (q 5) (fun i => ins S c i && decide (u 2 i = fl S c)) t S)) (tin_brd hc ht (tin_o I (let_o (by decide))) (fun i hi z => by rw [let_o (by decide)]; exact G i hi z) (q 5) (Nat.le_refl _)) ?_
        rw [su_o (by decide), su_o (by decide)]
      · split
        · split
          · exact tin_o I (su_o (by decide))
          · exact tin_o I (by rw [mv_1, su_o (by decide)])
        · exact tin_o I (by rw [mv_1, su_o (by decide)])
  · exact tin_o I (su_o (by decide))
theorem tin_acts (hq : q 1 ≤ 2) (ht : t < 900) (I : Tin q u S) (G : ∀ i, i < q 5 → t < u 0 i → S 0 i = -1) : ∀ k, k ≤ q 1 → Tin q u (sActs q u t k S) := by
  intro k
  induction k with
  | zero => intro _; exact I
  | succ k ih => intro hk; exact tin_act (by omega) ht (ih (by omega)) (fun i hi z => by rw [acts_0]; exact G i hi z)
theorem tin_step (Q : Qok q u) (ht : t < 900) (I : Tin q u S) (U : Un q u t S) : Tin q u (sStep q u v way t S) := by
  have U1 : Un q u (t + 1) (sStep q u v way t S) := step_un U
  refine tin_acts Q.2.2.2.1 ht (tin_o I ?_) (fun i hi z => ?_) (q 1) (Nat.le_refl _)
  · rw [hold_o (by decide)]
    unfold sGive
    split
    · rfl
    · funext i
      exact giv_o _ (by omega)
  · have := U1 i hi (by omega)
    unfold sStep at this
    rw [acts_0] at this
    exact this
theorem run_inv (Q : Qok q u) : ∀ k t S, t + k ≤ 900 → Sok q S → Un q u t S → Tin q u S → Sok q (sRun q u v way k t S).1 ∧ Tin q u (sRun q u v way k t S).1 := by
  intro k
  induction k with
  | zero => intro t S _ K _ I; exact ⟨K, I⟩
  | succ k ih =>
    intro t S e K U I
    have K1 := step_ok (v := v) (way := way) Q K (by omega : t < 900) U
    have I1 := tin_step (v := v) (way := way) Q (by omega : t < 900) I U
    unfold sRun
    split
    · exact ⟨K1, I1⟩
    · exact ih (t + 1) _ (by omega) K1 (step_un U) I1
theorem all_inv (Q : Qok q u) (I : Ini S) : Sok q (sAll q u v way S).1 ∧ Tin q u (sAll q u v way S).1 := by
  have q5 : q 5 ≤ 24 := Q.2.2.2.2.2.2.2.2.1
  have T0 : Tin q u S := fun i hi => Or.inl (I.1 i (by omega)).2.1
  unfold sAll
  split
  · exact ⟨ini_ok Q I, T0⟩
  · exact run_inv Q 900 0 S (by omega) (ini_ok Q I) (ini_un Q I) T0
theorem wts_n (I : Tin q u S) {i : Nat} (hi : i < q 5) : ∃ x, x ≤ 900 ∧ wts u S i = nI x := by
  unfold wts
  rcases I i hi with e | ⟨w, w1, w2, w3⟩
  · rw [if_pos e]; exact ⟨900, by omega, rfl⟩
  · rw [w3, if_neg (n_eq_m1 (by omega)), pk_sub w1]
    exact ⟨w - u 0 i, by omega, rfl⟩
/-! what is told of a run -/
def wsum (u : Nat → Nat → Nat) (S : TSt) : Nat → Int32
  | 0 => 0
  | k + 1 => wsum u S k + wts u S k
def lw (u : Nat → Nat → Nat) (S : TSt) : Nat → Nat
  | 0 => 0
  | k + 1 => if wts u S (lw u S k) < wts u S k then k else lw u S k
theorem lw_lt : ∀ k, 0 < k → lw u S k < k := by
  intro k
  induction k with
  | zero => intro h; omega
  | succ k ih =>
    intro _
    unfold lw
    by_cases g : wts u S (lw u S k) < wts u S k
    · rw [if_pos g]; omega
    · rw [if_neg g]
      by_cases z : k = 0
      · subst z; unfold lw; omega
      · have := ih (by omega); omega
theorem wsum_n (I : Tin q u S) : ∀ k, k ≤ q 5 → ∃ x, x ≤ 900 * k ∧ wsum u S k = nI x := by
  intro k
  induction k with
  | zero => intro _; exact ⟨0, by omega, rfl⟩
  | succ k ih =>
    intro hk
    obtain ⟨x, x1, x2⟩ := ih (by omega)
    obtain ⟨y, y1, y2⟩ := wts_n I (by omega : k < q 5)
    exact ⟨x + y, by omega, by rw [wsum, x2, y2, nI_add]⟩
section
variable {o : Nat}
theorem sumC_b4 {N : Nat} (Q : Qok q u) (h7 : h.1 o 7 = nI (q 5)) (hwt : ∀ j, j < q 5 → h.1 (o + 4) j = wts u S j) : ∀ m i fuel, i + m = q 5 → m < fuel → F_X10_sumOfWaits_b4 N o fuel (wsum u S i) (nI i) h = some (wsum u S (q 5), h) := by
  have q5 : q 5 ≤ 24 := Q.2.2.2.2.2.2.2.2.1
  intro m
  induction m with
  | zero =>
    intro i fuel e1 e2
    obtain ⟨fu, rfl⟩ : ∃ g, fuel = g + 1 := ⟨fuel - 1, by omega⟩
    rw [F_X10_sumOfWaits_b4, h7, if_pos (nI_le (by omega) (by omega)), show i = q 5 by omega]
  | succ m ih =>
    intro i fuel e1 e2
    obtain ⟨fu, rfl⟩ : ∃ g, fuel = g + 1 := ⟨fuel - 1, by omega⟩
    rw [F_X10_sumOfWaits_b4, h7, if_neg (nI_ge (by omega) (by omega)), if_pos (nI_in0 (by omega : i < 24) (by omega)), nI_clamp (by omega), hwt i (by omega), ib_e, ib_e, nI_1]
    exact ih (i + 1) fu (by omega) (by omega)
theorem sumC_x {N : Nat} (hN : 100 ≤ N) (Q : Qok q u) {x : TSt × Int32} (T : TrE q u o x h) : F_X10_sumOfWaits N o h = some (wsum u x.1 (q 5), h) := by
  have q5 : q 5 ≤ 24 := Q.2.2.2.2.2.2.2.2.1
  exact sumC_b4 Q T.1.2.1 T.2.2 (q 5) 0 N (by omega) (by omega)
theorem longC_b4 {N : Nat} (Q : Qok q u) (h7 : h.1 o 7 = nI (q 5)) (hwt : ∀ j, j < q 5 → h.1 (o + 4) j = wts u S j) : ∀ m i fuel, 0 < i → i + m = q 5 → m < fuel → F_X10_longestWaiter_b4 N o fuel (nI (lw u S i)) (nI i) h = some (nI (lw u S (q 5)), h) := by
  have q5 : q 5 ≤ 24 := Q.2.2.2.2.2.2.2.2.1
  intro m
  induction m with
  | zero =>
    intro i fuel e0 e1 e2
    obtain ⟨fu, rfl⟩ : ∃ g, fuel = g + 1 := ⟨fuel - 1, by omega⟩
    rw [F_X10_longestWaiter_b4, h7, if_pos (nI_le (by omega) (by omega)), show i = q 5 by omega]
  | succ m ih =>
    intro i fuel e0 e1 e2
    obtain ⟨fu, rfl⟩ : ∃ g, fuel = g + 1 := ⟨fuel - 1, by omega⟩
    have ll := lw_lt (u := u) (S := S) i e0
    have i1 := ih (i + 1) fu (by omega) (by omega) (by omega)
    rw [F_X10_longestWaiter_b4, h7, if_neg (nI_ge (by omega) (by omega)), if_pos (nI_in0 (by omega : i < 24) (by omega)), if_pos (nI_in0 (by omega : lw u S i < 24) (by omega)), nI_clamp (by omega), nI_clamp (by omega), hwt i (by omega), hwt _ (by omega)]
    unfold F_X10_longestWaiter_b29
    simp only [ib_e, nI_1]
    rw [lw] at i1
    by_cases g : wts u S (lw u S i) < wts u S i
    · rw [if_pos g] at i1
      rw [if_neg (Int32.not_le.mpr g)]
      exact i1
    · rw [if_neg g] at i1
      rw [if_pos (Int32.not_lt.mp g)]
      exact i1
theorem longC_x {N : Nat} (hN : 100 ≤ N) (Q : Qok q u) (h0 : 0 < q 5) {x : TSt × Int32} (T : TrE q u o x h) : F_X10_longestWaiter N o h = some (nI (lw u x.1 (q 5)), h) := by
  have q5 : q 5 ≤ 24 := Q.2.2.2.2.2.2.2.2.1
  have := longC_b4 (N := N) Q T.1.2.1 T.2.2 (q 5 - 1) 1 N (by omega) (by omega) (by omega)
  rw [show lw u x.1 1 = 0 by unfold lw lw; simp] at this
  exact this
theorem outC_x (Q : Qok q u) {x : TSt × Int32} (T : TrE q u o x h) : F_X10_howManyOut o h = some (nI (fb_ct (fun i => !decide (x.1 2 i < 0)) (q 5)), h) := by
  have q5 : q 5 ≤ 24 := Q.2.2.2.2.2.2.2.2.1
  unfold F_X10_howManyOut
  have e := fb_ct_not (fun i => decide (x.1 2 i < 0)) (q 5)
  rw [bitC, bI_s, Mk_ct (by omega) T.1.2.2.2.2.2, T.1.2.1, pk_sub (by omega)]
  congr 2
  congr 1
  omega
end
theorem waitOf_x (Q : Qok q u) (K : Sok q S) (P : PqM q u h) (T : TrM b S h) {i : Nat} (hi : i < q 5) : F_X12_waitOf (nI i) h = some (wts u S i, h) := by
  have q5 : q 5 ≤ 24 := Q.2.2.2.2.2.2.2.2.1
  unfold F_X12_waitOf wts
  rw [if_pos (nI_in0 (by omega : i < 24) (by omega)), if_pos (nI_in0 (by omega : i < 24) (by omega)), nI_clamp (by omega), (T.1 i (by omega)).2.1, (P.2.2.2.2.2.2.2.2.1 i hi).1]
  rcases (K.2 i hi).2.1 with e | e
  · rw [e, if_neg (by decide), if_pos rfl]
  · rw [if_pos e, if_neg (fun z => by rw [z] at e; exact absurd e (by decide))]
def wby (q : Nat → Nat) (u : Nat → Nat → Nat) (S : TSt) (what : Int32) : Int32 := if what = 0 then wsum u S (q 5) else if what = 1 then wts u S (lw u S (q 5)) else if what = 2 then nI (lw u S (q 5)) else nI (fb_ct (fun i => !decide (S 2 i < 0)) (q 5))
theorem wby_b13 {N : Nat} {what : Int32} (Q : Qok q u) (K : Sok q S) (I : Tin q u S) (P : PqM q u h) (T : TrM b S h) : ∀ m i fuel, 0 < i → i + m = q 5 → m < fuel → F_X12_waitsBy_b13 N fuel what (wsum u S i) (wts u S (lw u S i)) (nI (lw u S i)) (nI (fb_ct (fun i => !decide (S 2 i < 0)) i)) (nI i) h = some (wby q u S what, h) := by
  have q5 : q 5 ≤ 24 := Q.2.2.2.2.2.2.2.2.1
  intro m
  induction m with
  | zero =>
    intro i fuel e0 e1 e2
    obtain ⟨fu, rfl⟩ : ∃ g, fuel = g + 1 := ⟨fuel - 1, by omega⟩
    rw [F_X12_waitsBy_b13, P.2.2.2.2.2.1, if_pos (nI_le (by omega) (by omega)), show i = q 5 by omega]
    unfold F_X12_waitsBy_b89 wby
    split
    · rfl
    · split
      · rfl
      · split
        · rfl
        · rfl
  | succ m ih =>
    intro i fuel e0 e1 e2
    obtain ⟨fu, rfl⟩ : ∃ g, fuel = g + 1 := ⟨fuel - 1, by omega⟩
    have i1 := ih (i + 1) fu (by omega) (by omega) (by omega)
    rw [F_X12_waitsBy_b13, P.2.2.2.2.2.1, if_neg (nI_ge (by omega) (by omega)), waitOf_x Q K P T (by omega : i < q 5), bI_s, ib_e]
    unfold F_X12_waitsBy_b48 F_X12_waitsBy_b62 F_X12_waitsBy_b80
    rw [if_pos (nI_in0 (by omega : i < 24) (by omega)), nI_clamp (by omega), (T.1 i (by omega)).2.2]
    simp only [ib_e, nI_1]
    rw [wsum, lw, fb_ct_succ] at i1
    have z0 : ∀ n, nI n + 0 = nI (n + 0) := fun n => nI_add n 0
    by_cases g : wts u S (lw u S i) < wts u S i
    · rw [if_pos g] at i1
      rw [if_neg (Int32.not_le.mpr g), if_neg (Int32.not_le.mpr g), if_pos (nI_in0 (by omega : i < 24) (by omega))]
      by_cases g2 : S 2 i < 0
      · rw [if_pos g2, z0]; simp [g2] at i1 ⊢; exact i1
      · rw [if_neg g2]; simp [g2] at i1 ⊢; exact i1
    · rw [if_neg g] at i1
      rw [if_pos (Int32.not_lt.mp g), if_pos (Int32.not_lt.mp g)]
      by_cases g2 : S 2 i < 0
      · rw [if_pos g2, z0]; simp [g2] at i1 ⊢; exact i1
      · rw [if_neg g2]; simp [g2] at i1 ⊢; exact i1
theorem wby_x {N : Nat} {what : Int32} (hN : 100 ≤ N) (Q : Qok q u) (h0 : 0 < q 5) (K : Sok q S) (I : Tin q u S) (P : PqM q u h) (T : TrM b S h) : F_X12_waitsBy N what h = some (wby q u S what, h) := by
  have q5 : q 5 ≤ 24 := Q.2.2.2.2.2.2.2.2.1
  obtain ⟨N', rfl⟩ : ∃ n, N = n + 1 := ⟨N - 1, by omega⟩
  obtain ⟨x, x1, x2⟩ := wts_n I h0
  have nl : ¬ wts u S 0 ≤ -1 := by
    rw [x2]
    intro z
    exact absurd (Int32.le_trans (nI_pos' (n := x) (by omega)) z) (by decide)
  have := wby_b13 (N := N' + 1) (what := what) Q K I P T (q 5 - 1) 1 N' (by omega) (by omega) (by omega)
  rw [show lw u S 1 = 0 by unfold lw lw; simp, show wsum u S 1 = 0 + wts u S 0 from rfl, show fb_ct (fun i => !decide (S 2 i < 0)) 1 = 0 + (if (!decide (S 2 0 < 0)) = true then 1 else 0) from rfl] at this
  unfold F_X12_waitsBy
  have w0 := waitOf_x Q K P T h0
  rw [show nI 0 = 0 from rfl] at w0
  rw [F_X12_waitsBy_b13, P.2.2.2.2.2.1, if_neg (show ¬ nI (q 5) ≤ 0 from nI_ge (a := 0) h0 (by omega)), w0, bI_s, ib_e]
  unfold F_X12_waitsBy_b48 F_X12_waitsBy_b62 F_X12_waitsBy_b80
  rw [if_neg nl, if_neg nl, if_pos (show inb (0 : Int32) 24 = true by decide), show (0 : Int32).toNatClampNeg = 0 by decide, (T.1 0 (by omega)).2.2]
  simp only [ib_e]
  by_cases g2 : S 2 0 < 0
  · rw [if_pos g2]
    simp only [g2] at this
    exact this
  · rw [if_neg g2]
    simp only [g2] at this
    exact this
end
