/-! a whole run in the reference -/
def MG (h h' : PH) : Prop := ∀ a b, a < 103 ∨ (a = 103 ∧ b ≠ 74) ∨ (104 ≤ a ∧ a ≤ 113) ∨ (124 ≤ a ∧ a ≤ 141) ∨ 150 ≤ a → h'.1 a b = h.1 a b
section
variable {q : Nat → Nat} {u : Nat → Nat → Nat} {v : (Nat → Int32) → Int32} {way : Int32} {S : TSt} {b : Bool} {t : Nat} {h h' h2 : PH}
theorem MG_0 : MG h h := fun _ _ _ => rfl
theorem MG_f (a : MF h h') : MG h h' := fun x y z => a x y (by omega)
theorem MG_t (a : MG h h') (b : MG h' h2) : MG h h2 := fun x y z => (b x y z).trans (a x y z)
theorem MG_s {k j : Nat} {x : Int32} (a : MG h h') (e : (142 ≤ k ∧ k ≤ 149) ∨ (114 ≤ k ∧ k ≤ 123) ∨ (k = 103 ∧ j = 74)) : MG h (hs h' k j x) := fun c d z => by
  rw [hs_1]
  by_cases e1 : c = k
  · by_cases e2 : d = j
    · omega
    · rw [if_pos e1, if_neg e2]; exact a c d z
  · rw [if_neg e1]; exact a c d z
theorem flees_b32 {N c : Nat} (hc : c < 2) (Q : Qok q u) {h0 : PH} (P : PqM q u h0) : ∀ m i fuel h, i + m = q 5 → m < fuel → TrM b (sLet i (ins S c) t S) h → MF h0 h → okV (F_X12_flees_b32 N fuel (nI c) (nI t) (nI i) h) (fun h' => TrM b (sLet (q 5) (ins S c) t S) h' ∧ MF h0 h') := by
  have q5 : q 5 ≤ 24 := Q.2.2.2.2.2.2.2.2.1
  intro m
  induction m with
  | zero =>
    intro i fuel h e1 e2 T f
    obtain ⟨fu, rfl⟩ : ∃ g, fuel = g + 1 := ⟨fuel - 1, by omega⟩
    have P' := PqM_t P f
    rw [F_X12_flees_b32, P'.2.2.2.2.2.1, if_pos (nI_le (by omega) (by omega))]
    rw [show i = q 5 by omega] at T
    exact okV_s ⟨T, f⟩
  | succ m ih =>
    intro i fuel h e1 e2 T f
    obtain ⟨fu, rfl⟩ : ∃ g, fuel = g + 1 := ⟨fuel - 1, by omega⟩
    have P' := PqM_t P f
    rw [F_X12_flees_b32, P'.2.2.2.2.2.1, if_neg (nI_ge (by omega) (by omega)), inside_x T (by omega), bI_s, let_li (Nat.le_refl _)]
    unfold F_X12_flees_b56
    simp only [ib_e, nI_1]
    cases g : ins S c i
    · rw [if_pos (by decide)]
      exact ih (i + 1) fu h (by omega) (by omega) (by rw [← let_s0 g]; exact T) f
    · rw [if_neg (by decide), if_pos (nI_in0 (by omega : i < 24) (by omega)), nI_clamp (by omega), hb_e]
      exact ih (i + 1) fu _ (by omega) (by omega) (by rw [← let_s1 g]; exact TrM_s (k := 2) (by decide) (by decide) (by decide) T) (MF_s f (by omega))
theorem fleesM_x {N c : Nat} (hN : 100 ≤ N) (hc : c < 2) (Q : Qok q u) (K : Sok q S) (P : PqM q u h) (T : TrM false S h) : okV (F_X12_flees N (nI c) (nI t) h) (fun h' => TrM false (sFlee q c t S) h' ∧ MF h h') := by
  have q5 : q 5 ≤ 24 := Q.2.2.2.2.2.2.2.2.1
  have q06 : q 0 ≤ 6 := Q.2.1
  have fy := (K.1 c hc).1
  have T1 : TrM false S (hs h 146 c 0) := TrM_7 T
  have f1 : MF h (hs h 146 c 0) := MF_s MF_0 (by omega)
  unfold F_X12_flees sFlee
  rw [if_pos (nI_in0 hc (by omega)), nI_clamp (by omega), hb_e, m_f T1 K hc]
  by_cases g : fl S c = 0
  · rw [if_pos (by rw [g]; decide), if_pos g]
    exact okV_m (flees_b32 (N := N) hc Q (PqM_t P f1) (q 5) 0 N _ (by omega) (by omega) (by rw [let_00]; exact T1) MF_0) (fun h' z => ⟨z.1, MF_t f1 z.2⟩)
  · rw [if_neg (fun z => g (by have := (n_le_l 0 (by omega) (by omega)).mp z; omega)), if_neg g, if_pos (nI_in0 hc (by omega)), nI_m1 (by omega)]
    obtain ⟨h', e1, e2, e3⟩ := passM_x hc Q K T1 (y := fl S c - 1) (by omega) (by omega)
    rw [e1, bV_s]
    exact okV_s ⟨e2, MF_t f1 e3⟩
theorem actsM_x {N c : Nat} (hN : 100 ≤ N) (ht : t < 900) (hc : c < q 1) (Q : Qok q u) (K : Sok q S) (P : PqM q u h) (T : TrM (!brn (q 7) t) S h) : okV (F_X12_acts N (nI c) (nI t) h) (fun h' => TrM (!brn (q 7) t) (sAct q u t c S) h' ∧ MF h h') := by
  have q12 : q 1 ≤ 2 := Q.2.2.2.1
  have q7 : q 7 ≤ 900 := Q.2.2.2.2.2.2.2.2.2.2.1
  have hc2 : c < 2 := by omega
  unfold F_X12_acts sAct
  rw [if_pos (nI_in0 hc2 (by omega)), nI_clamp (by omega), (T.2.1 c hc2).2.1]
  by_cases g1 : S 8 c ≤ 0
  · rw [if_pos g1, if_pos g1, P.2.2.2.2.2.2.2.1]
    have calm : brn (q 7) t = false → okV (F_X12_acts_b46 N (nI c) (nI t) h) (fun h' => TrM (!brn (q 7) t) (if mst q u S c = true then sStop q u c t S else sGo q u c S) h' ∧ MF h h') := fun z => by
      rw [z] at T ⊢
      unfold F_X12_acts_b46
      rw [mayStop_x hN hc2 Q K P T, bI_s]
      by_cases g3 : mst q u S c = true
      · rw [if_pos g3, if_neg one10, if_pos g3]
        obtain ⟨h', e1, e2⟩ := stopsM_x hN hc2 ht Q K P T
        rw [e1, bV_s]
        exact okV_s e2
      · rw [if_neg g3, if_pos rfl, if_neg g3]
        obtain ⟨h', e1, e2⟩ := goesM_x hN hc2 Q K P T (by simpa using g3)
        rw [e1, bV_s]
        exact okV_s e2
    cases hf : q 7 with
    | zero =>
      rw [hf] at calm
      rw [if_pos (show bu 0 < 0 by decide), if_neg (by unfold brn; simp)]
      exact calm (by unfold brn; simp)
    | succ f =>
      rw [hf] at calm T
      rw [show bu (f + 1) = nI f from rfl, if_neg (nlt0 (by omega))]
      by_cases g2 : t < f
      · rw [if_pos (nI_lt g2 (by omega)), if_neg (by unfold brn; simp; omega)]
        exact calm (by unfold brn; simp; omega)
      · have br : brn (f + 1) t = true := decide_eq_true (by omega)
        rw [if_neg (nI_nlt (by omega) (by omega)), if_pos br]
        rw [br] at T ⊢
        obtain ⟨h', e1, e2⟩ := fleesM_x (t := t) hN hc2 Q K P T
        rw [e1, bV_s]
        exact okV_s e2
  · rw [if_neg g1, if_neg g1, if_pos (nI_in0 hc2 (by omega)), hb_e]
    exact okV_s ⟨TrM_s (k := 8) (by decide) (by decide) (by decide) T, MF_s MF_0 (by omega)⟩
theorem over_b65 {N : Nat} (hN : 100 ≤ N) (Q : Qok q u) (K : Sok q S) (P : PqM q u h) (T : TrM b S h) : ∀ m i fuel, i + m = q 1 → m < fuel → F_X12_isOver_b65 N fuel (if exn i (fun k => !(decide (lod (q 5) S k = 0) && decide (fl S k = 0))) = true then 0 else 1) (nI i) h = some (if exn (q 1) (fun k => !(decide (lod (q 5) S k = 0) && decide (fl S k = 0))) = true then 0 else 1, h) := by
  have q12 : q 1 ≤ 2 := Q.2.2.2.1
  have q06 : q 0 ≤ 6 := Q.2.1
  have q2 : q 2 ≤ 8 := Q.2.2.2.2.2.1
  intro m
  induction m with
  | zero =>
    intro i fuel e1 e2
    obtain ⟨fu, rfl⟩ : ∃ g, fuel = g + 1 := ⟨fuel - 1, by omega⟩
    rw [F_X12_isOver_b65, P.2.1, if_pos (nI_le (by omega) (by omega)), show i = q 1 by omega]
    cases exn (q 1) (fun k => !(decide (lod (q 5) S k = 0) && decide (fl S k = 0)))
    · rfl
    · rfl
  | succ m ih =>
    intro i fuel e1 e2
    obtain ⟨fu, rfl⟩ : ∃ g, fuel = g + 1 := ⟨fuel - 1, by omega⟩
    have i1 := ih (i + 1) fu (by omega) (by omega)
    rw [exn_s] at i1
    have fy := (K.1 i (by omega)).1
    have ll := (K.1 i (by omega)).2.2.2.1
    rw [F_X12_isOver_b65, P.2.1, if_neg (nI_ge (by omega) (by omega))]
    unfold F_X12_isOver_b101 F_X12_isOver_b102
    rw [if_pos (nI_in0 (by omega : i < 2) (by omega)), nI_clamp (by omega), m_f T K (by omega), loadM_x hN Q P T, bI_s]
    simp only [ib_e, nI_1]
    cases g : exn i (fun k => !(decide (lod (q 5) S k = 0) && decide (fl S k = 0)))
    · rw [g] at i1
      rw [if_neg (by decide)]
      by_cases g1 : fl S i = 0
      · rw [if_pos (by rw [g1]; rfl)]
        by_cases g2 : lod (q 5) S i = 0
        · rw [if_pos (by rw [g2]; rfl)]
          rw [show (false || !(decide (lod (q 5) S i = 0) && decide (fl S i = 0))) = false by simp [g1, g2]] at i1
          exact i1
        · rw [if_neg (fun z => g2 ((n_eq_l 0 (by omega) (by omega)).mp z))]
          rw [show (false || !(decide (lod (q 5) S i = 0) && decide (fl S i = 0))) = true by simp [g2]] at i1
          exact i1
      · rw [if_neg (fun z => g1 ((n_eq_l 0 (by omega) (by omega)).mp z))]
        rw [show (false || !(decide (lod (q 5) S i = 0) && decide (fl S i = 0))) = true by simp [g1]] at i1
        exact i1
    · rw [g] at i1
      rw [if_pos (by decide)]
      exact i1
theorem over_b4 {N : Nat} (hN : 100 ≤ N) (ht : t < 900) (Q : Qok q u) (K : Sok q S) (P : PqM q u h) (T : TrM b S h) : ∀ m i fuel, i + m = q 5 → m < fuel → F_X12_isOver_b4 N fuel (nI t) (if exn i (fun i => decide (S 2 i < 0)) = true then 0 else 1) (nI i) h = some (if sOvr q t S = true then 1 else 0, h) := by
  have q5 : q 5 ≤ 24 := Q.2.2.2.2.2.2.2.2.1
  have q7 : q 7 ≤ 900 := Q.2.2.2.2.2.2.2.2.2.2.1
  have q12 : q 1 ≤ 2 := Q.2.2.2.1
  intro m
  induction m with
  | zero =>
    intro i fuel e1 e2
    obtain ⟨fu, rfl⟩ : ∃ g, fuel = g + 1 := ⟨fuel - 1, by omega⟩
    rw [F_X12_isOver_b4, P.2.2.2.2.2.1, if_pos (nI_le (by omega) (by omega)), show i = q 5 by omega]
    unfold F_X12_isOver_b37 sOvr
    rw [P.2.2.2.2.2.2.2.1]
    have ho := over_b65 hN Q K P T (q 1) 0 N (by omega) (by omega)
    rw [show exn 0 (fun k => !(decide (lod (q 5) S k = 0) && decide (fl S k = 0))) = false from rfl, if_neg (by decide)] at ho
    cases g : exn (q 5) (fun i => decide (S 2 i < 0))
    · rw [if_neg (by decide)]; rfl
    · rw [if_pos rfl, if_pos rfl]
      cases hf : q 7 with
      | zero => rw [if_pos (show bu 0 < 0 by decide)]; unfold brn; simp
      | succ f =>
        rw [show bu (f + 1) = nI f from rfl, if_neg (nlt0 (by omega))]
        by_cases g2 : f ≤ t
        · rw [if_pos (nI_le g2 (by omega)), show (0 : Int32) = nI 0 from rfl, ho, show brn (f + 1) t = true from decide_eq_true (by omega)]
          cases exn (q 1) (fun k => !(decide (lod (q 5) S k = 0) && decide (fl S k = 0)))
          · rfl
          · rfl
        · rw [if_neg (nI_ge (by omega) (by omega)), show brn (f + 1) t = false from decide_eq_false (by omega)]
          rfl
  | succ m ih =>
    intro i fuel e1 e2
    obtain ⟨fu, rfl⟩ : ∃ g, fuel = g + 1 := ⟨fuel - 1, by omega⟩
    have i1 := ih (i + 1) fu (by omega) (by omega)
    rw [exn_s] at i1
    rw [F_X12_isOver_b4, P.2.2.2.2.2.1, if_neg (nI_ge (by omega) (by omega))]
    unfold F_X12_isOver_b29 F_X12_isOver_b30
    rw [if_pos (nI_in0 (by omega : i < 24) (by omega)), nI_clamp (by omega), (T.1 i (by omega)).2.2]
    simp only [ib_e, nI_1]
    cases g : exn i (fun i => decide (S 2 i < 0))
    · rw [g] at i1
      rw [if_neg (by decide)]
      by_cases g1 : S 2 i < 0
      · rw [if_pos g1]
        simp [g1] at i1
        exact i1
      · rw [if_neg g1]
        simp [g1] at i1
        exact i1
    · rw [g] at i1
      rw [if_pos (by decide)]
      exact i1
theorem isOver_x {N : Nat} (hN : 100 ≤ N) (ht : t < 900) (Q : Qok q u) (K : Sok q S) (P : PqM q u h) (T : TrM b S h) : F_X12_isOver N (nI t) h = some (if sOvr q t S = true then 1 else 0, h) := by
  have q5 : q 5 ≤ 24 := Q.2.2.2.2.2.2.2.2.1
  exact over_b4 hN ht Q K P T (q 5) 0 N (by omega) (by omega)
/-! its loops -/
theorem run_131 {N : Nat} (hN : 5000 ≤ N) (hw : way = -1 ∨ 0 ≤ way) (ht : t < 900) (Q : Qok q u) (K : Sok q S) (U : Un q u t S) (rc : ∀ fa fb, (∀ a, a < 10 → fa a = fb a) → v fa = v fb) {rk : Int32 → Int32 → PH → Option PH} {G : PH → Prop} {h0 : PH} (P : PqM q u h0) (R : RwM v h0) (fin : ∀ h, TrM (!brn (q 7) t) (sGive q u v way t S) h → MF h0 h → okV (F_X12_runs_b177 N rk way (nI t) h) G) : ∀ m i fuel h, i + m = q 5 → m < fuel → TrM (!brn (q 7) t) (if brn (q 7) t = true then S else sGiv q u v way t i S) h → MF h0 h → okV (F_X12_runs_b131 N rk fuel way (nI t) (nI i) h) G := by
  have q5 : q 5 ≤ 24 := Q.2.2.2.2.2.2.2.2.1
  have q7 : q 7 ≤ 900 := Q.2.2.2.2.2.2.2.2.2.2.1
  intro m
  induction m with
  | zero =>
    intro i fuel h e1 e2 T f
    obtain ⟨fu, rfl⟩ : ∃ g, fuel = g + 1 := ⟨fuel - 1, by omega⟩
    have P' := PqM_t P f
    rw [F_X12_runs_b131, P'.2.2.2.2.2.1, if_pos (nI_le (by omega) (by omega))]
    rw [show i = q 5 by omega] at T
    exact fin h T f
  | succ m ih =>
    intro i fuel h e1 e2 T f
    obtain ⟨fu, rfl⟩ : ∃ g, fuel = g + 1 := ⟨fuel - 1, by omega⟩
    have P' := PqM_t P f
    have R' := RwM_t R f
    have pi := P'.2.2.2.2.2.2.2.2.1 i (by omega)
    have ui := Q.2.2.2.2.2.2.2.2.2.2.2.1 i (by omega)
    rw [F_X12_runs_b131, P'.2.2.2.2.2.1, if_neg (nI_ge (by omega) (by omega)), if_pos (nI_in0 (by omega : i < 24) (by omega)), nI_clamp (by omega), pi.1, P'.2.2.2.2.2.2.2.1]
    unfold F_X12_runs_b164 F_X12_runs_b171
    simp only [ib_e, nI_1]
    by_cases g : u 0 i = t
    · rw [if_pos (by rw [g])]
      have calm : brn (q 7) t = false → okV (bV (F_X12_gives N (nI i) (nI t) way h) (fun h2 => F_X12_runs_b131 N rk fu way (nI t) (nI (i + 1)) h2)) G := fun z => by
        rw [z] at T
        rw [if_neg (by decide)] at T
        have Ki := giv_ok (u := u) (v := v) (way := way) (t := t) K (fun k hk z => U k hk (by omega)) i (by omega)
        obtain ⟨k, x1, x2, x3⟩ := gives_x (t := t) hN hw Q Ki P' R' rc T (by omega : i < q 5) ht
        rw [x1, bV_s]
        refine ih (i + 1) fu k (by omega) (by omega) ?_ (MF_t f x3)
        rw [z, if_neg (by decide), sGiv, if_pos g]
        exact x2
      cases hf : q 7 with
      | zero => rw [if_pos (show bu 0 < 0 by decide)]; exact calm (by rw [hf]; unfold brn; simp)
      | succ ff =>
        rw [show bu (ff + 1) = nI ff from rfl, if_neg (nlt0 (by omega))]
        by_cases g2 : ff ≤ t
        · have br : brn (q 7) t = true := by rw [hf]; exact decide_eq_true (by omega)
          rw [if_pos (nI_le g2 (by omega))]
          refine ih (i + 1) fu h (by omega) (by omega) ?_ f
          rw [br, if_pos rfl] at T ⊢
          exact T
        · rw [if_neg (nI_ge (by omega) (by omega))]
          exact calm (by rw [hf]; exact decide_eq_false (by omega))
    · rw [if_neg (fun z => g ((nI_eq (by omega) (by omega)).mp z))]
      refine ih (i + 1) fu h (by omega) (by omega) ?_ f
      rw [sGiv, if_neg g]
      exact T
theorem run_179 {N : Nat} (ht : t < 900) (Q : Qok q u) (K : Sok q S) {rk : Int32 → Int32 → PH → Option PH} {G : PH → Prop} {h0 : PH} (P : PqM q u h0) (fin : ∀ h, TrM b (sHold u t (q 6) S) h → MF h0 h → okV (F_X12_runs_b250 N rk way (nI t) h) G) : ∀ m i fuel h, i + m = q 6 → m < fuel → TrM b (sHold u t i S) h → MF h0 h → okV (F_X12_runs_b179 N rk fuel way (nI t) (nI i) h) G := by
  have q6 : q 6 ≤ 8 := Q.2.2.2.2.2.2.2.2.2.1
  have q12 : q 1 ≤ 2 := Q.2.2.2.1
  intro m
  induction m with
  | zero =>
    intro i fuel h e1 e2 T f
    obtain ⟨fu, rfl⟩ : ∃ g, fuel = g + 1 := ⟨fuel - 1, by omega⟩
    have P' := PqM_t P f
    rw [F_X12_runs_b179, P'.2.2.2.2.2.2.1, if_pos (nI_le (by omega) (by omega))]
    rw [show i = q 6 by omega] at T
    exact fin h T f
  | succ m ih =>
    intro i fuel h e1 e2 T f
    obtain ⟨fu, rfl⟩ : ∃ g, fuel = g + 1 := ⟨fuel - 1, by omega⟩
    have P' := PqM_t P f
    have ph := P'.2.2.2.2.2.2.2.2.2 i (by omega)
    have uh := Q.2.2.2.2.2.2.2.2.2.2.2.2 i (by omega)
    have Ki := hold_ok (t := t) Q K i (by omega)
    have no : ¬ (u 3 i = t ∧ 0 < sHold u t i S 8 (u 4 i)) → okV (F_X12_runs_b179 N rk fu way (nI t) (nI (i + 1)) h) G := fun z => ih (i + 1) fu h (by omega) (by omega) (by rw [sHold, if_neg z]; exact T) f
    rw [F_X12_runs_b179, P'.2.2.2.2.2.2.1, if_neg (nI_ge (by omega) (by omega)), if_pos (nI_in0 (by omega : i < 8) (by omega)), nI_clamp (by omega), ph.1, ph.2.1, ph.2.2, P'.2.1]
    unfold F_X12_runs_b244
    simp only [ib_e, nI_1]
    rw [if_pos (nI_in0 (by omega : i < 8) (by omega)), if_pos (nI_in0 (by omega : i < 8) (by omega)), if_pos (nI_in0 (by omega : i < 8) (by omega)), if_pos (nI_in0 uh.2.1 (by omega)), nI_clamp (by omega), if_pos (nI_in0 uh.2.1 (by omega)), (T.2.1 (u 4 i) uh.2.1).2.1, hb_e]
    by_cases g : u 3 i = t
    · rw [if_pos (by rw [g])]
      by_cases g1 : q 1 ≤ u 4 i
      · rw [if_pos (nI_le g1 (by omega))]
        exact no (fun z => by
          have := (Ki.1 (u 4 i) uh.2.1).2.2.2.2 g1
          rw [this] at z
          exact absurd z.2 (by decide))
      · rw [if_neg (nI_ge (by omega) (by omega))]
        by_cases g2 : sHold u t i S 8 (u 4 i) ≤ 0
        · rw [if_pos g2]
          exact no (fun z => absurd z.2 (Int32.not_lt.mpr g2))
        · rw [if_neg g2]
          refine ih (i + 1) fu _ (by omega) (by omega) ?_ (MF_s f (by omega))
          rw [sHold, if_pos ⟨g, Int32.not_le.mp g2⟩]
          exact TrM_s (k := 8) (by decide) (by decide) (by decide) T
    · rw [if_neg (fun z => g ((nI_eq (by omega) (by omega)).mp z))]
      exact no (fun z => g z.1)
theorem run_252 {N : Nat} (hN : 100 ≤ N) (ht : t < 900) (Q : Qok q u) (K : Sok q S) {rk : Int32 → Int32 → PH → Option PH} {G : PH → Prop} {h0 : PH} (P : PqM q u h0) (fin : ∀ h, TrM (!brn (q 7) t) (sActs q u t (q 1) S) h → MF h0 h → okV (F_X12_runs_b272 N rk way (nI t) h) G) : ∀ m i fuel h, i + m = q 1 → m < fuel → TrM (!brn (q 7) t) (sActs q u t i S) h → MF h0 h → okV (F_X12_runs_b252 N rk fuel way (nI t) (nI i) h) G := by
  have q12 : q 1 ≤ 2 := Q.2.2.2.1
  intro m
  induction m with
  | zero =>
    intro i fuel h e1 e2 T f
    obtain ⟨fu, rfl⟩ : ∃ g, fuel = g + 1 := ⟨fuel - 1, by omega⟩
    have P' := PqM_t P f
    rw [F_X12_runs_b252, P'.2.1, if_pos (nI_le (by omega) (by omega))]
    rw [show i = q 1 by omega] at T
    exact fin h T f
  | succ m ih =>
    intro i fuel h e1 e2 T f
    obtain ⟨fu, rfl⟩ : ∃ g, fuel = g + 1 := ⟨fuel - 1, by omega⟩
    have P' := PqM_t P f
    rw [F_X12_runs_b252, P'.2.1, if_neg (nI_ge (by omega) (by omega))]
    obtain ⟨k, k1, k2, k3⟩ := actsM_x (c := i) hN ht (by omega) Q (acts_ok Q K ht i (by omega)) P' T
    rw [k1, bV_s, ib_e, nI_1]
    exact ih (i + 1) fu k (by omega) (by omega) k2 (MF_t f k3)
theorem run_115 {N : Nat} (hN : 5000 ≤ N) (hw : way = -1 ∨ 0 ≤ way) (Q : Qok q u) (rc : ∀ fa fb, (∀ a, a < 10 → fa a = fb a) → v fa = v fb) : ∀ k t fuel h S, t + k = 900 → k < fuel → TrM (!brn (q 7) t) S h → PqM q u h → RwM v h → Sok q S → Un q u t S → h.1 103 74 = -1 → okV (F_X12_runs_b115 N fuel way (nI t) h) (fun h' => (∃ b, TrM b (sRun q u v way k t S).1 h') ∧ h'.1 103 74 = (sRun q u v way k t S).2 ∧ MG h h') := by
  have q5 : q 5 ≤ 24 := Q.2.2.2.2.2.2.2.2.1
  have q12 : q 1 ≤ 2 := Q.2.2.2.1
  have q6 : q 6 ≤ 8 := Q.2.2.2.2.2.2.2.2.2.1
  intro k
  induction k with
  | zero =>
    intro t fuel h S e1 e2 T P R K U E
    obtain ⟨fu, rfl⟩ : ∃ g, fuel = g + 1 := ⟨fuel - 1, by omega⟩
    rw [F_X12_runs_b115, show t = 900 by omega, if_pos (by decide)]
    exact okV_s ⟨⟨_, T⟩, E, MG_0⟩
  | succ k ih =>
    intro t fuel h S e1 e2 T P R K U E
    obtain ⟨fu, rfl⟩ : ∃ g, fuel = g + 1 := ⟨fuel - 1, by omega⟩
    have ht : t < 900 := by omega
    rw [F_X12_runs_b115, if_neg (fun z => by have := (l_le_n 900 (by omega) (by omega)).mp z; omega), E, if_neg (by decide)]
    refine run_131 (v := v) hN hw ht Q K U rc P R ?_ (q 5) 0 N h (by omega) (by omega) (by
      split
      · exact T
      · exact T) MF_0
    intro k1 T1 f1
    have K1 := give_ok (v := v) (way := way) K U
    unfold F_X12_runs_b177
    refine run_179 ht Q K1 (PqM_t P f1) ?_ (q 6) 0 N k1 (by omega) (by omega) T1 MF_0
    intro k2 T2 f2
    have K2 := hold_ok (t := t) Q K1 (q 6) (Nat.le_refl _)
    have f12 := MF_t f1 f2
    unfold F_X12_runs_b250
    refine run_252 (by omega) ht Q K2 (PqM_t P f12) ?_ (q 1) 0 N k2 (by omega) (by omega) T2 MF_0
    intro k3 T3 f3
    have f13 := MF_t f12 f3
    have K3 := acts_ok (t := t) Q K2 ht (q 1) (Nat.le_refl _)
    have T3' : TrM (!brn (q 7) t) (sStep q u v way t S) k3 := T3
    have K3' : Sok q (sStep q u v way t S) := K3
    have U3 : Un q u (t + 1) (sStep q u v way t S) := step_un U
    have P3 := PqM_t P f13
    unfold F_X12_runs_b272 F_X12_runs_b285
    rw [isOver_x (by omega) ht Q K3' P3 T3', bI_s, sRun]
    simp only [ib_e, nI_1]
    by_cases g : sOvr q t (sStep q u v way t S) = true
    · rw [if_pos g, if_neg one10, if_pos g, hb_e]
      obtain ⟨fv, rfl⟩ : ∃ g, fu = g + 1 := ⟨fu - 1, by omega⟩
      have res : okV (some (hs k3 103 74 (nI t))) (fun h' => (∃ b, TrM b (sStep q u v way t S) h') ∧ h'.1 103 74 = nI t ∧ MG h h') := okV_s ⟨⟨_, TrM_q T3' (fun a b z => by rw [hs_o (by omega)])⟩, by simp [hs_1], MG_s (MG_f f13) (by omega)⟩
      rw [F_X12_runs_b115]
      by_cases g9 : 900 ≤ t + 1
      · rw [if_pos (by rw [show t + 1 = 900 by omega]; decide)]; exact res
      · rw [if_neg (fun z => by have := (l_le_n 900 (by omega) (by omega)).mp z; omega), if_pos (by simp [hs_1]; exact nI_pos' (by omega))]; exact res
    · rw [if_neg g, if_pos rfl, if_neg g]
      have E3 : k3.1 103 74 = -1 := by rw [f13 103 74 (by omega)]; exact E
      exact okV_m (ih (t + 1) fu k3 _ (by omega) (by omega) (TrM_b T3' (fun z => by
        cases y : brn (q 7) t
        · rfl
        · rw [brn_mono (by omega : t ≤ t + 1) y] at z; exact z)) P3 (RwM_t R f13) K3' U3 E3) (fun h' z => ⟨z.1, z.2.1, MG_t (MG_f f13) z.2.2⟩)
end
