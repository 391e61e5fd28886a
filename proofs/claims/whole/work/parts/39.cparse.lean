/-! the class's parser reads as told -/
def kdf (n : Nat) (T : Nat → Nat) (i : Nat) : Nat := tkk n T (tkb n T i)
def vlf (n : Nat) (T : Nat → Nat) (i : Nat) : Nat := tkv n T (tkb n T i)
def POk (n : Nat) (T : Nat → Nat) (m : Nat) (r : Bool) (F : Nat) (i : Nat) (D : List Nat) (x : PO) (h : PH) : Prop := match x with
  | .inl (k, j) => PaF n T m r F (k + 16 * tkb n T j) h
  | .inr (j, E, _) => i < j ∧ E.length + i ≤ j ∧ PaS n T m r F j (D ++ E) h
def CSp (n : Nat) (T : Nat → Nat) (m : Nat) (r : Bool) (F : Nat) (c : PH → Option PH) (sub : Nat → PO) : Prop := (∀ i D h, D.length ≤ i → PaS n T m r F i D h → okV (c h) (fun h' => POk n T m r F i D (sub i) h' ∧ fq [6] K5 h h')) ∧ (∀ e h, PaF n T m r F e h → okV (c h) (fun h' => PaF n T m r F e h' ∧ fq [6] K5 h h'))
section
variable {n : Nat} {T : Nat → Nat} {m : Nat} {r : Bool} {F : Nat}
theorem lvI_eq {k L : Nat} (hL : L ≤ 3) : lvI k = nI L ↔ lvl k = L := by
  unfold lvI
  have : lvl k ≤ 9 := by
    unfold lvl
    repeat' split
    all_goals omega
  by_cases g : lvl k = 9
  · rw [if_pos g, g]
    exact ⟨fun z => absurd z.symm (n_eq_m1 (by omega)), fun z => by omega⟩
  · rw [if_neg g]
    exact nI_eq (by omega) (by omega)
theorem lvl_op {k L : Nat} (h : lvl k = L) (hL : L ≤ 3) : k ≠ 0 ∧ k < 21 := by
  unfold lvl at h
  repeat' split at h
  all_goals omega
theorem loopF {N fu : Nat} {ce : Int32 → Int32 → PH → Option PH} {cp : Int32 → PH → Option PH} {x1 x2 x3 : Int32} {e : Nat} {h : PH} (hf : 0 < fu) (S : PaF n T m r F e h) : F_X5_expression_b21 N ce cp fu x1 x2 x3 h = some h := by
  obtain ⟨f, rfl⟩ : ∃ f, fu = f + 1 := ⟨fu - 1, by omega⟩
  unfold F_X5_expression_b21
  have e0 : ¬ h.1 3 5 = 0 := fun z => by
    rw [S.2.1] at z
    have := (n_eq_l 0 (by have := S.2.2.2.1; omega) (by omega)).mp z
    have := S.2.2.1
    omega
  by_cases g : (1000 : Int32) ≤ x3
  · rw [if_pos g]
  · rw [if_neg g, if_neg e0]
theorem not_end {i : Nat} {D : List Nat} {h : PH} (S : PaS n T m r F i D h) (hk : kdf n T i ≠ 0) : i < m := by
  have := S.2.1
  by_cases e : i = m
  · exact absurd ((kd_end ⟨S.1.1.1, S.1.1.2.1, S.1.1.2.2.1⟩ S.2.1).mpr e) hk
  · omega
theorem cLoop {N d L : Nat} {ce : Int32 → Int32 → PH → Option PH} {cp : Int32 → PH → Option PH} {sub : Nat → PO} (hL : L ≤ 3) (H : CSp n T m r F (ce (nI (L + 1)) (nI d)) sub) : ∀ (t fu j i0 : Nat) (D0 E C : List Nat) (h : PH), t < fu → t ≤ 1000 → D0.length ≤ i0 → PaS n T m r F j (D0 ++ E) h → i0 < j → E.length + i0 ≤ j → okV (F_X5_expression_b21 N ce cp fu (nI L) (nI d) (nI (1000 - t)) h) (fun h' => POk n T m r F i0 D0 (spLp (kdf n T) L sub t j E C) h' ∧ fq [6] K5 h h') := by
  intro t
  induction t with
  | zero =>
    intro fu j i0 D0 E C h hf ht hD S h1 h2
    obtain ⟨f, rfl⟩ : ∃ f, fu = f + 1 := ⟨fu - 1, by omega⟩
    unfold F_X5_expression_b21
    rw [if_pos (by decide)]
    exact okV_s ⟨⟨h1, h2, S⟩, fq_0⟩
  | succ t ih =>
    intro fu j i0 D0 E C h hf ht hD S h1 h2
    obtain ⟨f, rfl⟩ : ∃ f, fu = f + 1 := ⟨fu - 1, by omega⟩
    have kl : kdf n T j < 35 := kd_le n T (tkb n T j)
    have hk : h.1 3 3 = nI (kdf n T j) := S.2.2.2.1
    unfold F_X5_expression_b21
    rw [if_neg (fun z => by have := (l_le_n 1000 (by omega) (by omega)).mp z; omega), if_pos S.2.2.2.2.2.1, hk, levelOf_x _ kl, bI_s]
    unfold spLp
    by_cases g : lvl (kdf n T j) = L
    · rw [if_pos ((lvI_eq hL).mpr g), if_pos g, ib_e, hk]
      have op := lvl_op g hL
      have hjm := not_end S op.1
      refine okV_bV (okV_m (adv_x S hjm) (fun h8 q => ?_))
      obtain ⟨S8, f8⟩ := q
      refine okV_bV ?_
      rw [nI_1]
      refine okV_m (H.1 _ _ _ (by simp; omega) S8) (fun h10 q => ?_)
      obtain ⟨P10, f10⟩ := q
      refine okV_bV ?_
      cases hsub : sub (j + 1) with
      | inl e =>
        rw [hsub] at P10
        refine okV_m (addF_x P10) (fun h12 q => ?_)
        obtain ⟨P12, f12⟩ := q
        have fin : POk n T m r F i0 D0 (.inl e) h12 ∧ fq [6] K5 h h12 := ⟨P12, fq_t f8 (fq_t f10 f12)⟩
        by_cases g1 : nI L = 1
        · rw [if_pos g1]
          exact okV_s fin
        · rw [if_neg g1, ib_e, loopF (by omega) P12]
          exact okV_s fin
      | inr q =>
        obtain ⟨j', E', C'⟩ := q
        rw [hsub] at P10
        obtain ⟨p1, p2, p3⟩ := P10
        have jm : j' ≤ 1000 := Nat.le_trans p3.2.1 (Nat.le_trans p3.1.1.1 p3.1.2.1)
        have len : (D0 ++ E ++ E').length < j' := by
          simp
          omega
        refine okV_m (add_x (k := kdf n T j) (a := 0) p3 (by omega) (by omega) (by omega) (by omega)) (fun h12 q => ?_)
        obtain ⟨S12, f12⟩ := q
        rw [show kdf n T j + 64 * 0 = kdf n T j by omega, List.append_assoc D0 E E', List.append_assoc D0 (E ++ E') [kdf n T j]] at S12
        have len2 : (E ++ E' ++ [kdf n T j]).length + i0 ≤ j' := by simp; omega
        by_cases g1 : L = 1
        · rw [if_pos ((n_eq_l 1 (by omega) (by omega)).mpr g1)]
          refine okV_s ⟨?_, fq_t f8 (fq_t f10 f12)⟩
          show POk n T m r F i0 D0 (if L = 1 then .inr (j', E ++ E' ++ [kdf n T j], C ++ opc (kdf n T j) :: C') else spLp (kdf n T) L sub t j' (E ++ E' ++ [kdf n T j]) (C ++ opc (kdf n T j) :: C')) h12
          rw [if_pos g1]
          exact ⟨by omega, len2, S12⟩
        · rw [if_neg (fun z => g1 ((n_eq_l 1 (by omega) (by omega)).mp z)), ib_e, nI_1, show 1000 - (t + 1) + 1 = 1000 - t by omega]
          refine okV_m (ih f j' i0 D0 (E ++ E' ++ [kdf n T j]) (C ++ opc (kdf n T j) :: C') h12 (by omega) (by omega) hD S12 (by omega) len2) (fun h' q => ⟨?_, fq_t f8 (fq_t f10 (fq_t f12 q.2))⟩)
          show POk n T m r F i0 D0 (if L = 1 then .inr (j', E ++ E' ++ [kdf n T j], C ++ opc (kdf n T j) :: C') else spLp (kdf n T) L sub t j' (E ++ E' ++ [kdf n T j]) (C ++ opc (kdf n T j) :: C')) h'
          rw [if_neg g1]
          exact q.1
    · rw [if_neg (fun z => g ((lvI_eq hL).mp z)), if_neg g]
      exact okV_s ⟨⟨h1, h2, S⟩, fq_0⟩
theorem cLv {N d L : Nat} {ce : Int32 → Int32 → PH → Option PH} {cp : Int32 → PH → Option PH} {sub : Nat → PO} (hN : 2000 ≤ N) (hL : L ≤ 3) (H : CSp n T m r F (ce (nI (L + 1)) (nI d)) sub) : CSp n T m r F (F_X5_expression N ce cp (nI L) (nI d)) (spLv (kdf n T) L sub) := by
  refine ⟨fun i D h hD S => ?_, fun e h S => ?_⟩
  · unfold F_X5_expression
    rw [if_pos ((n_le_l 3 (by omega) (by omega)).mpr hL), nI_1]
    refine okV_bV (okV_m (H.1 _ _ _ hD S) (fun h3 q => ?_))
    obtain ⟨P, f⟩ := q
    unfold spLv
    cases hsub : sub i with
    | inl e =>
      rw [hsub] at P
      rw [loopF (by omega) P]
      exact okV_s ⟨P, f⟩
    | inr q =>
      obtain ⟨j, E, C⟩ := q
      rw [hsub] at P
      obtain ⟨p1, p2, p3⟩ := P
      refine okV_m (cLoop hL H 1000 N j i D E C h3 (by omega) (by omega) hD p3 p1 p2) (fun h' q => ⟨q.1, fq_t f q.2⟩)
  · unfold F_X5_expression
    rw [if_pos ((n_le_l 3 (by omega) (by omega)).mpr hL), nI_1]
    refine okV_bV (okV_m (H.2 _ _ S) (fun h3 q => ?_))
    rw [loopF (by omega) q.1]
    exact okV_s q
theorem cL4 {N d : Nat} {ce : Int32 → Int32 → PH → Option PH} {cp : Int32 → PH → Option PH} {sub : Nat → PO} (H : CSp n T m r F (cp (nI d)) sub) : CSp n T m r F (F_X5_expression N ce cp (nI 4) (nI d)) sub := by
  refine ⟨fun i D h hD S => ?_, fun e h S => ?_⟩
  · unfold F_X5_expression
    rw [if_neg (by decide)]
    obtain ⟨h', e1, e2⟩ := H.1 _ _ _ hD S
    exact ⟨h', by rw [e1]; rfl, e2⟩
  · unfold F_X5_expression
    rw [if_neg (by decide)]
    obtain ⟨h', e1, e2⟩ := H.2 _ _ S
    exact ⟨h', by rw [e1]; rfl, e2⟩
theorem kd2 (n : Nat) (T : Nat → Nat) (b : Nat) : (tkk n T b = 2 → tkv n T b < 10000) ∧ (tkk n T b = 3 → tkv n T b < 8) := by
  unfold tkk tkv
  by_cases g : n ≤ b
  · rw [if_pos g, if_pos g]
    omega
  · rw [if_neg g, if_neg g]
    by_cases gl : isL T b = true
    · rw [if_pos gl, if_pos gl]
      have wg := wkn_ge (v := wnm n T b) WW 12 (by omega)
      repeat' split
      all_goals omega
    · rw [if_neg gl, if_neg gl]
      by_cases gd : isD T b = true
      · have ee : eor (isD T) n b = tke n T b := by unfold tke; rw [if_neg g, if_neg gl, if_pos gd]
        have te := tke_b (T := T) (show b < n by omega)
        have db : ∀ k p a, (∀ q, p ≤ q → q < p + k → isD T q = true) → dig T k p a < (a + 1) * 10 ^ k := by
          intro k
          induction k with
          | zero => intro p a _; show a < (a + 1) * 1; omega
          | succ k ih =>
            intro p a hd
            have d1 := of_decide_eq_true (hd p (by omega) (by omega))
            have := ih (p + 1) (a * 10 + (T p - 48)) (fun q q1 q2 => hd q (by omega) (by omega))
            have h2 : (a * 10 + (T p - 48) + 1) * 10 ^ k ≤ ((a + 1) * 10) * 10 ^ k := Nat.mul_le_mul_right _ (by omega)
            rw [Nat.pow_succ, Nat.mul_comm (10 ^ k) 10, ← Nat.mul_assoc]
            show dig T k (p + 1) (a * 10 + (T p - 48)) < _
            omega
        have nb : nnm n T b < 10000 := by
          have := db (min 4 (tke n T b - b)) b 0 (fun q q1 q2 => eor_in (n := n) (p := b) q1 (by rw [ee]; omega))
          have h8 : 10 ^ (min 4 (tke n T b - b)) ≤ 10 ^ 4 := Nat.pow_le_pow_right (by omega) (by omega)
          unfold nnm
          omega
        rw [if_pos gd, if_pos gd]
        split <;> omega
      · rw [if_neg gd, if_neg gd]
        have := sgk_le (T b)
        omega
theorem partF {ce : Int32 → Int32 → PH → Option PH} {cp : Int32 → PH → Option PH} {d : Int32} {e : Nat} {h : PH} (S : PaF n T m r F e h) : okV (F_X5_part ce cp d h) (fun h' => PaF n T m r F e h' ∧ fq [6] K5 h h') := by
  unfold F_X5_part
  rw [if_neg (fun z => by
    rw [S.2.1] at z
    have := (n_eq_l 0 (by have := S.2.2.2.1; omega) (by omega)).mp z
    have := S.2.2.1
    omega)]
  exact okV_s ⟨S, fq_0⟩
theorem fact124_x {i : Nat} {D : List Nat} {h : PH} (S : PaS n T m r F i D h) (hi : i < m) : okV (F_X5_fact_b124 h) (fun h' => PaS n T m r F (i + 1) D h' ∧ fq [6] K5 h h') := by
  unfold F_X5_fact_b124
  rw [if_pos S.2.2.2.2.2.1]
  obtain ⟨h', e1, e2⟩ := adv_x S hi
  exact ⟨h', by rw [e1]; rfl, e2⟩
theorem fact124F_x {e : Nat} {h : PH} (S : PaF n T m r F e h) : F_X5_fact_b124 h = some h := by
  unfold F_X5_fact_b124
  rw [if_neg (fun z => by
    rw [S.2.1] at z
    have := (n_eq_l 0 (by have := S.2.2.2.1; omega) (by omega)).mp z
    have := S.2.2.1
    omega)]
/-- a fact that is one token -/
theorem fact1_x {i k a : Nat} {D : List Nat} {h : PH} (S : PaS n T m r F i D h) (hi : i < m) (hd : D.length ≤ i) (hk : k < 64) (ha : a < 10000) : okV (bV (F_X2_add 4 (nI k) (nI a) h) fun h3 => F_X5_fact_b124 h3) (fun h' => (i < i + 1 ∧ [k + 64 * a].length + i ≤ i + 1 ∧ PaS n T m r F (i + 1) (D ++ [k + 64 * a]) h') ∧ fq [6] K5 h h') := by
  have jm : m ≤ 1000 := Nat.le_trans S.1.1.1 S.1.2.1
  refine okV_bV (okV_m (add_x S hd (by omega) hk ha) (fun h3 q => ?_))
  exact okV_m (fact124_x q.1 hi) (fun h' z => ⟨⟨by omega, by simp; omega, z.1⟩, fq_t q.2 z.2⟩)
theorem floorFact_x {i a c : Nat} {D : List Nat} {h : PH} (S : PaS n T m r F i D h) (hi : i < m) (hd : D.length ≤ i) (ha : a ≤ 14) : okV (bV (F_X5_floorFact (nI a) h) fun h6 => F_X5_fact_b124 h6) (fun h' => POk n T m r F i D (if kdf n T (i + 1) = 2 then (if vlf n T (i + 1) < F then .inr (i + 2, [3 + 64 * (a + vlf n T (i + 1))], [c + vlf n T (i + 1)]) else .inl (4, i + 1)) else .inl (1, i + 1)) h' ∧ fq [6] K5 h h') := by
  have jm : m ≤ 1000 := Nat.le_trans S.1.1.1 S.1.2.1
  have k2 := kd2 n T (tkb n T (i + 1))
  have kl : kdf n T (i + 1) < 35 := kd_le n T (tkb n T (i + 1))
  have hF : F ≤ 6 := S.1.2.2.2.2
  unfold F_X5_floorFact
  obtain ⟨h2, e2, S2, f2⟩ := adv_x S hi
  have hk : h2.1 3 3 = nI (kdf n T (i + 1)) := S2.2.2.2.1
  have hv : h2.1 3 4 = nI (vlf n T (i + 1)) := S2.2.2.2.2.1
  rw [e2, bV_s, hk, hv, S2.1.2.2.1]
  by_cases g : kdf n T (i + 1) = 2
  · have hv2 : vlf n T (i + 1) < 10000 := k2.1 g
    have him : i + 1 < m := not_end S2 (by omega)
    rw [if_pos ((n_eq_l 2 (by omega) (by omega)).mpr g), if_pos g]
    by_cases g2 : vlf n T (i + 1) < F
    · rw [if_pos (nI_lt g2 (by omega)), if_pos g2, nI_add]
      obtain ⟨h3, e3, S3, f3⟩ := add_x (k := 3) (a := a + vlf n T (i + 1)) S2 (by omega) (by omega) (by omega) (by omega)
      rw [show F_X2_add 4 3 (nI (a + vlf n T (i + 1))) h2 = _ from e3, bV_s, bV_s]
      exact okV_m (fact124_x S3 him) (fun h' z => ⟨⟨by omega, by simp; omega, z.1⟩, fq_t f2 (fq_t f3 z.2)⟩)
    · rw [if_neg (nI_nlt (by omega) (by omega)), if_neg g2]
      obtain ⟨h3, e3, S3, f3⟩ := blame_x (k := 4) S2 (by omega) (by omega) (by omega)
      rw [show F_X5_blame 4 h2 = _ from e3, bV_s, bV_s, fact124F_x S3]
      exact okV_s ⟨S3, fq_t f2 f3⟩
  · rw [if_neg (fun z => g ((n_eq_l 2 (by omega) (by omega)).mp z)), if_neg g]
    obtain ⟨h3, e3, S3, f3⟩ := blame_x (k := 1) S2 (by omega) (by omega) (by omega)
    rw [show F_X5_blame 1 h2 = _ from e3, bV_s, bV_s, fact124F_x S3]
    exact okV_s ⟨S3, fq_t f2 f3⟩
theorem POk_C {i : Nat} {D : List Nat} {j : Nat} {E C C' : List Nat} {h : PH} (k : POk n T m r F i D (.inr (j, E, C)) h) : POk n T m r F i D (.inr (j, E, C')) h := k
theorem factC_x {i : Nat} {D : List Nat} {h : PH} (S : PaS n T m r F i D h) (hd : D.length ≤ i) (hb : begs r (kdf n T i) = true) (h2 : kdf n T i ≠ 2) (h18 : kdf n T i ≠ 18) (h4 : kdf n T i ≠ 4) : okV (F_X5_fact (nI (kdf n T i)) h) (fun h' => POk n T m r F i D (spF F (kdf n T) (vlf n T) i) h' ∧ fq [6] K5 h h') := by
  have kl : kdf n T i < 35 := kd_le n T (tkb n T i)
  have k2 := kd2 n T (tkb n T i)
  have bg := of_decide_eq_true hb
  have hi : i < m := not_end S (by
    intro z
    rw [z] at bg
    split at bg <;> omega)
  unfold F_X5_fact spF
  by_cases g1 : kdf n T i = 3
  · have hv : h.1 3 4 = nI (vlf n T i) := S.2.2.2.2.1
    have hv2 : vlf n T i < 8 := k2.2 g1
    rw [if_pos ((n_eq_l 3 (by omega) (by omega)).mpr g1), if_pos g1, hv]
    exact fact1_x (k := 3) (a := vlf n T i) S hi hd (by omega) (by omega)
  · rw [if_neg (fun z => g1 ((n_eq_l 3 (by omega) (by omega)).mp z)), if_neg g1]
    by_cases g2 : kdf n T i = 21
    · rw [if_pos ((n_eq_l 21 (by omega) (by omega)).mpr g2), if_pos g2]
      exact floorFact_x (a := 8) (c := 40) S hi hd (by omega)
    · rw [if_neg (fun z => g2 ((n_eq_l 21 (by omega) (by omega)).mp z)), if_neg g2]
      by_cases g3 : kdf n T i = 22
      · rw [if_pos ((n_eq_l 22 (by omega) (by omega)).mpr g3), if_pos g3]
        exact floorFact_x (a := 14) (c := 50) S hi hd (by omega)
      · rw [if_neg (fun z => g3 ((n_eq_l 22 (by omega) (by omega)).mp z)), if_neg g3]
        by_cases g4 : kdf n T i = 23
        · rw [if_pos ((n_eq_l 23 (by omega) (by omega)).mpr g4), if_pos g4]
          exact fact1_x (k := 3) (a := 20) S hi hd (by omega) (by omega)
        · rw [if_neg (fun z => g4 ((n_eq_l 23 (by omega) (by omega)).mp z)), if_neg g4]
          by_cases g5 : kdf n T i = 24
          · rw [if_pos ((n_eq_l 24 (by omega) (by omega)).mpr g5), if_pos g5]
            exact fact1_x (k := 3) (a := 21) S hi hd (by omega) (by omega)
          · rw [if_neg (fun z => g5 ((n_eq_l 24 (by omega) (by omega)).mp z)), if_neg g5]
            have g6 : 25 ≤ kdf n T i := by
              cases r with
              | true => simp at bg; omega
              | false => simp at bg; omega
            rw [show (25 : Int32) = nI 25 from rfl, pk_sub g6]
            exact fact1_x (k := 25) (a := kdf n T i - 25) S hi hd (by omega) (by omega)
theorem cPart {d q : Nat} {ce : Int32 → Int32 → PH → Option PH} {cp : Int32 → PH → Option PH} (hq : q + d = 4) (HP : CSp n T m r F (cp (nI (d + 1))) (spP r F (kdf n T) (vlf n T) q)) (HE : CSp n T m r F (ce (nI 0) (nI (d + 1))) (spE (kdf n T) (spP r F (kdf n T) (vlf n T) q))) : CSp n T m r F (F_X5_part ce cp (nI d)) (spP r F (kdf n T) (vlf n T) (q + 1)) := by
  refine ⟨fun i D h hD S => ?_, fun e h S => partF S⟩
  have kl : kdf n T i < 35 := kd_le n T (tkb n T i)
  have k2 := kd2 n T (tkb n T i)
  have hk : h.1 3 3 = nI (kdf n T i) := S.2.2.2.1
  have hv : h.1 3 4 = nI (vlf n T i) := S.2.2.2.2.1
  have jm : m ≤ 1000 := Nat.le_trans S.1.1.1 S.1.2.1
  have im : i ≤ m := S.2.1
  unfold F_X5_part
  rw [if_pos S.2.2.2.2.2.1, hk, ib_e, begins_x _ kl h r S.1.2.2.2.1, bI_s]
  unfold spP
  cases hb : begs r (kdf n T i) with
  | false =>
    rw [if_pos (show (if false = true then (1 : Int32) else 0) = 0 from rfl), if_neg (show ¬ false = true by decide)]
    obtain ⟨h3, e3, S3, f3⟩ := blame_x (k := 1) S (by omega) (by omega) (by omega)
    exact ⟨h3, by rw [show F_X5_blame 1 h = _ from e3]; rfl, S3, f3⟩
  | true =>
    have bg := of_decide_eq_true hb
    have hi : i < m := not_end S (by
      intro z
      rw [z] at bg
      split at bg <;> omega)
    rw [if_neg (show ¬ (if true = true then (1 : Int32) else 0) = 0 by decide), if_pos (show true = true from rfl), if_pos ((n_lt_l 5 (by omega) (by omega)).mpr (by omega)), nI_1]
    by_cases g1 : kdf n T i = 18
    · rw [if_pos ((n_eq_l 18 (by omega) (by omega)).mpr g1), if_pos g1]
      obtain ⟨h2, e2, S2, f2⟩ := adv_x S hi
      rw [e2, bV_s]
      obtain ⟨h3, e3, P3, f3⟩ := HP.1 _ _ _ (show D.length ≤ i + 1 by omega) S2
      rw [e3, bV_s]
      refine okV_bV ?_
      cases hsub : spP r F (kdf n T) (vlf n T) q (i + 1) with
      | inl e =>
        rw [hsub] at P3
        exact okV_m (addF_x P3) (fun h' z => okV_s ⟨z.1, fq_t f2 (fq_t f3 z.2)⟩)
      | inr z =>
        obtain ⟨j, E, C⟩ := z
        rw [hsub] at P3
        obtain ⟨p1, p2, p3⟩ := P3
        have jm2 : j ≤ m := p3.2.1
        have len : (D ++ E).length < j := by simp; omega
        refine okV_m (add_x (k := 18) (a := 0) p3 (by omega) (by omega) (by omega) (by omega)) (fun h' z => okV_s ⟨⟨by omega, by simp; omega, ?_⟩, fq_t f2 (fq_t f3 z.2)⟩)
        have := z.1
        rw [List.append_assoc] at this
        exact this
    · rw [if_neg (fun z => g1 ((n_eq_l 18 (by omega) (by omega)).mp z)), if_neg g1]
      by_cases g2 : kdf n T i = 4
      · rw [if_pos ((n_eq_l 4 (by omega) (by omega)).mpr g2), if_pos g2]
        obtain ⟨h2, e2, S2, f2⟩ := adv_x S hi
        rw [e2, bV_s]
        obtain ⟨h3, e3, P3, f3⟩ := HE.1 _ _ _ (show D.length ≤ i + 1 by omega) S2
        rw [show ce 0 (nI (d + 1)) h2 = _ from e3, bV_s]
        refine okV_bV ?_
        cases hsub : spE (kdf n T) (spP r F (kdf n T) (vlf n T) q) (i + 1) with
        | inl e =>
          rw [hsub] at P3
          rw [expectF_x P3]
          exact okV_s (okV_s ⟨P3, fq_t f2 f3⟩)
        | inr z =>
          obtain ⟨j, E, C⟩ := z
          rw [hsub] at P3
          obtain ⟨p1, p2, p3⟩ := P3
          have jm2 : j ≤ m := p3.2.1
          refine okV_m (expect_x (k := 5) p3 (by simp; omega) (by omega) (by omega)) (fun h' z => okV_s ⟨?_, fq_t f2 (fq_t f3 z.2)⟩)
          have z1 := z.1
          show POk n T m r F i D (if kdf n T j = 5 then .inr (j + 1, E, 28 :: (C ++ [29])) else .inl (1, j)) h'
          by_cases g3 : kdf n T j = 5
          · rw [if_pos g3]
            rw [if_pos (show tkk n T (tkb n T j) = 5 from g3)] at z1
            exact ⟨by omega, by omega, z1.2⟩
          · rw [if_neg g3]
            rw [if_neg (show ¬ tkk n T (tkb n T j) = 5 from g3)] at z1
            exact z1
      · rw [if_neg (fun z => g2 ((n_eq_l 4 (by omega) (by omega)).mp z)), if_neg g2]
        by_cases g3 : kdf n T i = 2
        · rw [if_pos ((n_eq_l 2 (by omega) (by omega)).mpr g3), if_pos g3, hv]
          have hv2 : vlf n T i < 10000 := k2.1 g3
          obtain ⟨h2, e2, S2, f2⟩ := add_x (k := 2) (a := vlf n T i) S hD (by omega) (by omega) hv2
          rw [show F_X2_add 4 2 (nI (vlf n T i)) h = _ from e2, bV_s]
          obtain ⟨h3, e3, S3, f3⟩ := adv_x S2 hi
          rw [e3, bV_s]
          exact okV_s ⟨⟨by omega, by simp; omega, S3⟩, fq_t f2 f3⟩
        · rw [if_neg (fun z => g3 ((n_eq_l 2 (by omega) (by omega)).mp z)), if_neg g3]
          obtain ⟨h', e1, e2⟩ := factC_x S hD hb g3 g1 g2
          exact ⟨h', by rw [e1]; rfl, e2⟩
theorem cPart0 {ce : Int32 → Int32 → PH → Option PH} {cp : Int32 → PH → Option PH} : CSp n T m r F (F_X5_part ce cp (nI 5)) (spP r F (kdf n T) (vlf n T) 0) := by
  refine ⟨fun i D h hD S => ?_, fun e h S => partF S⟩
  have kl : kdf n T i < 35 := kd_le n T (tkb n T i)
  have hk : h.1 3 3 = nI (kdf n T i) := S.2.2.2.1
  have jm : m ≤ 1000 := Nat.le_trans S.1.1.1 S.1.2.1
  have im : i ≤ m := S.2.1
  unfold F_X5_part
  rw [if_pos S.2.2.2.2.2.1, hk, ib_e, begins_x _ kl h r S.1.2.2.2.1, bI_s]
  unfold spP
  cases hb : begs r (kdf n T i) with
  | false =>
    rw [if_pos (show (if false = true then (1 : Int32) else 0) = 0 from rfl), if_neg (show ¬ false = true by decide)]
    obtain ⟨h3, e3, S3, f3⟩ := blame_x (k := 1) S (by omega) (by omega) (by omega)
    exact ⟨h3, by rw [show F_X5_blame 1 h = _ from e3]; rfl, S3, f3⟩
  | true =>
    rw [if_neg (show ¬ (if true = true then (1 : Int32) else 0) = 0 by decide), if_pos (show true = true from rfl), if_neg (by decide)]
    obtain ⟨h3, e3, S3, f3⟩ := blame_x (k := 5) S (by omega) (by omega) (by omega)
    exact ⟨h3, by rw [show F_X5_blame 5 h = _ from e3]; rfl, S3, f3⟩
theorem cExpr {N d f : Nat} (hN : 2000 ≤ N) {sub : Nat → PO} (H : CSp n T m r F ((EP N f).2 (nI d)) sub) : CSp n T m r F ((EP N (f + 5)).1 (nI 0) (nI d)) (spE (kdf n T) sub) := by
  have h4 : CSp n T m r F ((EP N (f + 1)).1 (nI 4) (nI d)) sub := cL4 (N := N) (ce := (EP N f).1) (cp := (EP N f).2) H
  have h3 : CSp n T m r F ((EP N (f + 2)).1 (nI 3) (nI d)) (spLv (kdf n T) 3 sub) := cLv (N := N) (ce := (EP N (f + 1)).1) (cp := (EP N (f + 1)).2) hN (by omega) h4
  have h2 : CSp n T m r F ((EP N (f + 3)).1 (nI 2) (nI d)) (spLv (kdf n T) 2 (spLv (kdf n T) 3 sub)) := cLv (N := N) (ce := (EP N (f + 2)).1) (cp := (EP N (f + 2)).2) hN (by omega) h3
  have h1 : CSp n T m r F ((EP N (f + 4)).1 (nI 1) (nI d)) (spLv (kdf n T) 1 (spLv (kdf n T) 2 (spLv (kdf n T) 3 sub))) := cLv (N := N) (ce := (EP N (f + 3)).1) (cp := (EP N (f + 3)).2) hN (by omega) h2
  exact cLv (N := N) (ce := (EP N (f + 4)).1) (cp := (EP N (f + 4)).2) hN (by omega) h1
theorem cParts {N : Nat} (hN : 2000 ≤ N) : ∀ q d f, q + d = 5 → 6 * q + 1 ≤ f → CSp n T m r F ((EP N f).2 (nI d)) (spP r F (kdf n T) (vlf n T) q) := by
  intro q
  induction q with
  | zero =>
    intro d f hd hf
    obtain ⟨f', rfl⟩ : ∃ f', f = f' + 1 := ⟨f - 1, by omega⟩
    have : d = 5 := by omega
    subst this
    exact cPart0 (ce := (EP N f').1) (cp := (EP N f').2)
  | succ q ih =>
    intro d f hd hf
    obtain ⟨f', rfl⟩ : ∃ f', f = (f' + 5) + 1 := ⟨f - 6, by omega⟩
    exact cPart (ce := (EP N (f' + 5)).1) (cp := (EP N (f' + 5)).2) (by omega) (ih (d + 1) (f' + 5) (by omega) (by omega)) (cExpr hN (ih (d + 1) f' (by omega) (by omega)))
theorem cG {N : Nat} (hN : 2000 ≤ N) : CSp n T m r F (G_X5_expression N 0 0) (spE (kdf n T) (spP r F (kdf n T) (vlf n T) 5)) := cExpr hN (cParts hN 5 0 35 (by omega) (by omega))
end
