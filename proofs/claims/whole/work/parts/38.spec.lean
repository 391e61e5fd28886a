/-! the language, told purely: kinds kd, values vl of the tokens; r: a RULE; F: FLOORS. What is wrong (kind of FAULT, token), or the next token, the class's ops, the reference's codes -/
abbrev PO : Type := (Nat × Nat) ⊕ (Nat × List Nat × List Nat)
def pob (x : PO) (f : Nat → List Nat → List Nat → PO) : PO := match x with
  | .inl e => .inl e
  | .inr (j, E, C) => f j E C
def lvl (k : Nat) : Nat := if k = 19 ∨ k = 20 then 0 else if k = 6 ∨ k = 7 then 1 else if k = 8 ∨ k = 9 then 2 else if k = 10 then 3 else 9
def opc (k : Nat) : Nat := if k = 8 then 20 else if k = 9 then 21 else if k = 10 then 22 else if k = 6 then 24 else if k = 7 then 25 else if k = 19 then 26 else 27
def begs (r : Bool) (k : Nat) : Bool := decide (k = 2 ∨ k = 18 ∨ k = 4 ∨ (if r then 25 ≤ k ∧ k ≤ 34 else k = 3 ∨ (21 ≤ k ∧ k ≤ 24)))
def spF (F : Nat) (kd vl : Nat → Nat) (i : Nat) : PO :=
  if kd i = 3 then .inr (i + 1, [3 + 64 * vl i], [1 + vl i])
  else if kd i = 21 then (if kd (i + 1) = 2 then (if vl (i + 1) < F then .inr (i + 2, [3 + 64 * (8 + vl (i + 1))], [40 + vl (i + 1)]) else .inl (4, i + 1)) else .inl (1, i + 1))
  else if kd i = 22 then (if kd (i + 1) = 2 then (if vl (i + 1) < F then .inr (i + 2, [3 + 64 * (14 + vl (i + 1))], [50 + vl (i + 1)]) else .inl (4, i + 1)) else .inl (1, i + 1))
  else if kd i = 23 then .inr (i + 1, [3 + 64 * 20], [9])
  else if kd i = 24 then .inr (i + 1, [3 + 64 * 21], [10])
  else .inr (i + 1, [25 + 64 * (kd i - 25)], [kd i - 24])
def spLp (kd : Nat → Nat) (L : Nat) (sub : Nat → PO) : Nat → Nat → List Nat → List Nat → PO
  | 0, j, E, C => .inr (j, E, C)
  | t + 1, j, E, C => if lvl (kd j) = L then pob (sub (j + 1)) (fun j' E' C' => if L = 1 then .inr (j', E ++ E' ++ [kd j], C ++ opc (kd j) :: C') else spLp kd L sub t j' (E ++ E' ++ [kd j]) (C ++ opc (kd j) :: C')) else .inr (j, E, C)
def spLv (kd : Nat → Nat) (L : Nat) (sub : Nat → PO) (i : Nat) : PO := pob (sub i) (fun j E C => spLp kd L sub 1000 j E C)
def spE (kd : Nat → Nat) (sub : Nat → PO) : Nat → PO := spLv kd 0 (spLv kd 1 (spLv kd 2 (spLv kd 3 sub)))
def spP (r : Bool) (F : Nat) (kd vl : Nat → Nat) : Nat → Nat → PO
  | 0, i => if begs r (kd i) then .inl (5, i) else .inl (1, i)
  | q + 1, i => if begs r (kd i) then (if kd i = 18 then pob (spP r F kd vl q (i + 1)) (fun j E C => .inr (j, E ++ [18], 30 :: C)) else if kd i = 4 then pob (spE kd (spP r F kd vl q) (i + 1)) (fun j E C => if kd j = 5 then .inr (j + 1, E, 28 :: (C ++ [29])) else .inl (1, j)) else if kd i = 2 then .inr (i + 1, [2 + 64 * vl i], [100 + vl i]) else spF F kd vl i) else .inl (1, i)
/-! the class reads so -/
def K5 : List (Nat × Nat) := [(3, 2), (3, 3), (3, 4), (3, 5), (4, 6)]
/-- the rows of tokens, and what is told beside them -/
def PaR (n : Nat) (T : Nat → Nat) (m : Nat) (r : Bool) (F : Nat) (h : PH) : Prop := TkC n T m h ∧ n ≤ 1000 ∧ h.1 3 6 = nI F ∧ h.1 3 7 = (if r then 1 else 0) ∧ F ≤ 6
/-- the class stands at token i, without a FAULT; its draft holds the ops D -/
def PaS (n : Nat) (T : Nat → Nat) (m : Nat) (r : Bool) (F : Nat) (i : Nat) (D : List Nat) (h : PH) : Prop := PaR n T m r F h ∧ i ≤ m ∧ h.1 3 2 = nI i ∧ h.1 3 3 = nI (tkk n T (tkb n T i)) ∧ h.1 3 4 = nI (tkv n T (tkb n T i)) ∧ h.1 3 5 = 0 ∧ h.1 4 6 = nI D.length ∧ D.length ≤ i + 1 ∧ ∀ t, t < D.length → h.1 6 t = nI (D.getD t 0)
def PaF (n : Nat) (T : Nat → Nat) (m : Nat) (r : Bool) (F : Nat) (e : Nat) (h : PH) : Prop := PaR n T m r F h ∧ h.1 3 5 = nI e ∧ 0 < e ∧ e < 2 ^ 31 ∧ ∃ s, s ≤ 1000 ∧ h.1 4 6 = nI s
theorem PaR_c {n : Nat} {T : Nat → Nat} {m : Nat} {r : Bool} {F : Nat} {h h' : PH} (f : fq [6] K5 h h') (R : PaR n T m r F h) : PaR n T m r F h' := by
  obtain ⟨⟨t1, t2, t3, t4⟩, r1, r2, r3, r4⟩ := R
  refine ⟨⟨t1, t2, t3, fun i hi => ?_⟩, r1, ?_, ?_, r4⟩
  · rw [f 11 i (by decide) (by simp [K5]), f 12 i (by decide) (by simp [K5]), f 13 i (by decide) (by simp [K5])]; exact t4 i hi
  · rw [f 3 6 (by decide) (by decide)]; exact r2
  · rw [f 3 7 (by decide) (by decide)]; exact r3
def lvI (k : Nat) : Int32 := if lvl k = 9 then -1 else nI (lvl k)
theorem levelOf_x : ∀ (k : Nat), k < 35 → ∀ h : PH, F_X5_levelOf (nI k) h = some (lvI k, h)
  | 0, _, h => rfl
  | 1, _, h => rfl
  | 2, _, h => rfl
  | 3, _, h => rfl
  | 4, _, h => rfl
  | 5, _, h => rfl
  | 6, _, h => rfl
  | 7, _, h => rfl
  | 8, _, h => rfl
  | 9, _, h => rfl
  | 10, _, h => rfl
  | 11, _, h => rfl
  | 12, _, h => rfl
  | 13, _, h => rfl
  | 14, _, h => rfl
  | 15, _, h => rfl
  | 16, _, h => rfl
  | 17, _, h => rfl
  | 18, _, h => rfl
  | 19, _, h => rfl
  | 20, _, h => rfl
  | 21, _, h => rfl
  | 22, _, h => rfl
  | 23, _, h => rfl
  | 24, _, h => rfl
  | 25, _, h => rfl
  | 26, _, h => rfl
  | 27, _, h => rfl
  | 28, _, h => rfl
  | 29, _, h => rfl
  | 30, _, h => rfl
  | 31, _, h => rfl
  | 32, _, h => rfl
  | 33, _, h => rfl
  | 34, _, h => rfl
  | k + 35, q, h => by omega
theorem begins_x : ∀ (k : Nat), k < 35 → ∀ (h : PH) (r : Bool), h.1 3 7 = (if r then 1 else 0) → F_X5_beginsPart (nI k) h = some (if begs r k then 1 else 0, h) := by
  intro k hk h r hr
  unfold F_X5_beginsPart F_X5_beginsPart_b41 F_X5_beginsPart_b60 F_X5_beginsPart_b64 begs
  rw [hr]
  by_cases q2 : k = 2
  · subst q2; rfl
  · rw [if_neg (fun z => q2 ((n_eq_l 2 (by omega) (by omega)).mp z))]
    by_cases q3 : k = 18
    · subst q3; rfl
    · rw [if_neg (fun z => q3 ((n_eq_l 18 (by omega) (by omega)).mp z))]
      by_cases q4 : k = 4
      · subst q4; rfl
      · rw [if_neg (fun z => q4 ((n_eq_l 4 (by omega) (by omega)).mp z))]
        cases r with
        | false =>
          rw [if_pos (by decide)]
          by_cases q5 : k = 3
          · subst q5; rfl
          · rw [if_neg (fun z => q5 ((n_eq_l 3 (by omega) (by omega)).mp z))]
            by_cases q6 : k < 21
            · rw [if_pos ((n_lt_l 21 (by omega) (by omega)).mpr q6), if_neg (by simp; omega)]
            · rw [if_neg (fun z => q6 ((n_lt_l 21 (by omega) (by omega)).mp z))]
              by_cases q7 : 24 < k
              · rw [if_pos ((l_lt_n 24 (by omega) (by omega)).mpr q7), if_neg (by simp; omega)]
              · rw [if_neg (fun z => q7 ((l_lt_n 24 (by omega) (by omega)).mp z)), if_pos (by simp; omega)]
        | true =>
          rw [if_neg (by decide)]
          by_cases q6 : k < 25
          · rw [if_pos ((n_lt_l 25 (by omega) (by omega)).mpr q6), if_neg (by simp; omega)]
          · rw [if_neg (fun z => q6 ((n_lt_l 25 (by omega) (by omega)).mp z))]
            by_cases q7 : 34 < k
            · omega
            · rw [if_neg (fun z => q7 ((l_lt_n 34 (by omega) (by omega)).mp z)), if_pos (by simp; omega)]
section
variable {n : Nat} {T : Nat → Nat} {m : Nat} {r : Bool} {F : Nat}
theorem kd_end {i : Nat} (R : m ≤ n ∧ tkb n T m = n ∧ (∀ i, i < m → tkb n T i < n)) (hi : i ≤ m) : tkk n T (tkb n T i) = 0 ↔ i = m := by
  constructor
  · intro q
    by_cases e : i = m
    · exact e
    · have := R.2.2 i (by omega)
      have hp : 0 < tkk n T (tkb n T i) := by
        unfold tkk
        rw [if_neg (by omega)]
        have := sgk_le (T (tkb n T i))
        rcases wkn_ge (v := wnm n T (tkb n T i)) WW 12 (by omega) with z | z
        · repeat' split
          all_goals omega
        · repeat' split
          all_goals omega
      omega
  · intro q
    rw [q, R.2.1]
    unfold tkk
    rw [if_pos (Nat.le_refl _)]
theorem adv_x {i : Nat} {D : List Nat} {h : PH} (S : PaS n T m r F i D h) (hi : i < m) : okV (F_X5_advance h) (fun h' => PaS n T m r F (i + 1) D h' ∧ fq [6] K5 h h') := by
  obtain ⟨R, s1, s2, s3, s4, s5, s6, s7, s8⟩ := S
  have kl := kd_le n T (tkb n T i)
  have R' := R
  obtain ⟨tk, hn, -⟩ := R
  have hm : m ≤ n := tk.1
  unfold F_X5_advance
  rw [s3, if_neg (fun z => by
    have := (n_eq_l 0 (by omega) (by omega)).mp z
    have := (kd_end ⟨tk.1, tk.2.1, tk.2.2.1⟩ s1).mp this
    omega), s2, nI_1, if_neg (fun z => by have := (l_le_n 1001 (by omega) (by omega)).mp z; omega)]
  simp only [hb_e]
  have e1 : (hs h 3 2 (nI (i + 1))).1 3 2 = nI (i + 1) := by simp [hs_1]
  have t4 := tk.2.2.2 (i + 1) (by omega)
  have e2 : (hs h 3 2 (nI (i + 1))).1 11 (i + 1) = nI (tkk n T (tkb n T (i + 1))) := by rw [hs_1, if_neg (by decide)]; exact t4.1
  rw [e1, if_pos (nI_in0 (by omega) (by omega)), nI_clamp (by omega), e2]
  have e3 : (hs (hs h 3 2 (nI (i + 1))) 3 3 (nI (tkk n T (tkb n T (i + 1))))).1 3 2 = nI (i + 1) := by simp [hs_1]
  have e4 : (hs (hs h 3 2 (nI (i + 1))) 3 3 (nI (tkk n T (tkb n T (i + 1))))).1 12 (i + 1) = nI (tkv n T (tkb n T (i + 1))) := by rw [hs_1, if_neg (by decide), hs_1, if_neg (by decide)]; exact t4.2.1
  rw [e3, if_pos (nI_in0 (by omega) (by omega)), nI_clamp (by omega), e4]
  have f : fq [6] K5 h (hs (hs (hs h 3 2 (nI (i + 1))) 3 3 (nI (tkk n T (tkb n T (i + 1))))) 3 4 (nI (tkv n T (tkb n T (i + 1))))) := fq_s (fq_s (fq_s fq_0 (by decide)) (by decide)) (by decide)
  refine okV_s ⟨⟨PaR_c f R', by omega, ?_, ?_, ?_, ?_, ?_, by omega, fun t ht => ?_⟩, f⟩
  · simp [hs_1]
  · simp [hs_1]
  · simp [hs_1]
  · simp [hs_1]; exact s5
  · simp [hs_1]; exact s6
  · simp [hs_1]; exact s8 t ht
theorem add_x {i k a : Nat} {D : List Nat} {h : PH} (S : PaS n T m r F i D h) (hd : D.length ≤ i) (hd2 : D.length < 1000) (hk : k < 64) (ha : a < 10000) : okV (F_X2_add 4 (nI k) (nI a) h) (fun h' => PaS n T m r F i (D ++ [k + 64 * a]) h' ∧ fq [6] K5 h h') := by
  obtain ⟨R, s1, s2, s3, s4, s5, s6, s7, s8⟩ := S
  have hn : n ≤ 1000 := R.2.1
  have hm : m ≤ n := R.1.1
  unfold F_X2_add
  rw [s6, if_neg (fun z => by have := (l_le_n 1000 (by omega) (by omega)).mp z; omega), if_pos (nI_in0 (by omega) (by omega)), nI_clamp (by omega)]
  have e0 : nI k ||| (nI a <<< ((6 : Int32) &&& 31)) = nI (k + 64 * a) := by
    rw [show (6 : Int32) &&& 31 = (nI 6 &&& 31) from rfl, pk_shlN _ 6 (s_l 6 (by omega)) (by omega), Int32.or_comm, show a * 2 ^ 6 = 2 ^ 6 * a from Nat.mul_comm _ _, fa_or_sum a (show k < 2 ^ 6 by omega)]
    congr 1
    omega
  simp only [hb_e]
  rw [e0]
  have e1 : (hs h 6 D.length (nI (k + 64 * a))).1 4 6 = nI D.length := by rw [hs_1, if_neg (by decide)]; exact s6
  rw [e1, nI_1]
  have f : fq [6] K5 h (hs (hs h 6 D.length (nI (k + 64 * a))) 4 6 (nI (D.length + 1))) := fq_s (fq_s fq_0 (Or.inl (by decide))) (by decide)
  refine okV_s ⟨⟨PaR_c f R, s1, ?_, ?_, ?_, ?_, ?_, by simp; omega, fun t ht => ?_⟩, f⟩
  · simp [hs_1]; exact s2
  · simp [hs_1]; exact s3
  · simp [hs_1]; exact s4
  · simp [hs_1]; exact s5
  · simp [hs_1]
  · simp at ht
    by_cases e : t = D.length
    · subst e
      simp [hs_1, List.getD_eq_getElem?_getD]
    · have e3 : t < D.length := by omega
      simp [hs_1, e, List.getD_eq_getElem?_getD, List.getElem?_append_left e3]
      rw [s8 t e3, List.getD_eq_getElem?_getD]
theorem addF_x {e : Nat} {k a : Int32} {h : PH} (S : PaF n T m r F e h) : okV (F_X2_add 4 k a h) (fun h' => PaF n T m r F e h' ∧ fq [6] K5 h h') := by
  obtain ⟨R, s1, s2, s3, s, s4, s5⟩ := S
  unfold F_X2_add
  rw [s5]
  by_cases g : 1000 ≤ s
  · rw [if_pos ((l_le_n 1000 (by omega) (by omega)).mpr g)]
    exact okV_s ⟨⟨R, s1, s2, s3, s, s4, s5⟩, fq_0⟩
  · rw [if_neg (fun z => g ((l_le_n 1000 (by omega) (by omega)).mp z)), if_pos (nI_in0 (by omega) (by omega)), nI_clamp (by omega)]
    simp only [hb_e]
    have e1 : (hs h 6 s (k ||| a <<< ((6 : Int32) &&& 31))).1 4 6 = nI s := by rw [hs_1, if_neg (by decide)]; exact s5
    rw [e1, nI_1]
    have f : fq [6] K5 h (hs (hs h 6 s (k ||| a <<< ((6 : Int32) &&& 31))) 4 6 (nI (s + 1))) := fq_s (fq_s fq_0 (Or.inl (by decide))) (by decide)
    refine okV_s ⟨⟨PaR_c f R, ?_, s2, s3, s + 1, by omega, ?_⟩, f⟩
    · simp [hs_1]; exact s1
    · simp [hs_1]
theorem blame_x {i k : Nat} {D : List Nat} {h : PH} (S : PaS n T m r F i D h) (hd : D.length ≤ 1000) (hk : k < 16) (hk0 : 0 < k) : okV (F_X5_blame (nI k) h) (fun h' => PaF n T m r F (k + 16 * tkb n T i) h' ∧ fq [6] K5 h h') := by
  obtain ⟨R, s1, s2, s3, s4, s5, s6, s7, s8⟩ := S
  have hn : n ≤ 1000 := R.2.1
  have hm : m ≤ n := R.1.1
  have tb := (tkb_le (n := n) (T := T) i).2
  unfold F_X5_blame
  rw [if_pos s5, s2, if_neg (nI_pos (by omega)), if_pos (nI_in0 (by omega) (by omega)), nI_clamp (by omega), (R.1.2.2.2 i s1).2.2]
  simp only [hb_e]
  rw [show (16 : Int32) = nI 16 from rfl, pk_mul, nI_add]
  have f : fq [6] K5 h (hs h 3 5 (nI (k + 16 * tkb n T i))) := fq_s fq_0 (by decide)
  refine okV_s ⟨⟨PaR_c f R, by simp [hs_1], by omega, by omega, D.length, hd, ?_⟩, f⟩
  simp [hs_1]; exact s6
theorem expect_x {i k : Nat} {D : List Nat} {h : PH} (S : PaS n T m r F i D h) (hd : D.length ≤ 1000) (hk : k < 35) (h0 : k ≠ 0) : okV (F_X5_expect (nI k) h) (fun h' => (if tkk n T (tkb n T i) = k then i < m ∧ PaS n T m r F (i + 1) D h' else PaF n T m r F (1 + 16 * tkb n T i) h') ∧ fq [6] K5 h h') := by
  have kl := kd_le n T (tkb n T i)
  unfold F_X5_expect
  rw [if_pos S.2.2.2.2.2.1, S.2.2.2.1]
  by_cases g : tkk n T (tkb n T i) = k
  · have him : i < m := by
      have := S.2.1
      by_cases e : i = m
      · exact absurd ((kd_end ⟨S.1.1.1, S.1.1.2.1, S.1.1.2.2.1⟩ S.2.1).mpr e) (by omega)
      · omega
    rw [if_pos (by rw [g])]
    obtain ⟨h', e1, e2, e3⟩ := adv_x S him
    exact ⟨h', by rw [e1]; rfl, by rw [if_pos g]; exact ⟨him, e2⟩, e3⟩
  · rw [if_neg (fun z => g ((nI_eq (by omega) (by omega)).mp z))]
    obtain ⟨h', e1, e2, e3⟩ := blame_x (k := 1) S hd (by omega) (by omega)
    exact ⟨h', by rw [show F_X5_blame 1 h = _ from e1]; rfl, by rw [if_neg g]; exact e2, e3⟩
theorem expectF_x {e : Nat} {k : Int32} {h : PH} (S : PaF n T m r F e h) : F_X5_expect k h = some h := by
  unfold F_X5_expect
  rw [if_neg]
  intro z
  rw [S.2.1] at z
  have := (n_eq_l 0 (by have := S.2.2.2.1; omega) (by omega)).mp z
  have := S.2.2.1
  omega
end
