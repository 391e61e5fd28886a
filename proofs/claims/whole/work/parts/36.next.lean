/-! the reference's tokens -/
theorem slc_s {T : Nat → Nat} : ∀ k p, slc T (k + 1) p = slc T k p ++ [T (p + k)] := by
  intro k
  induction k with
  | zero => intro p; rfl
  | succ k ih =>
    intro p
    rw [slc, ih (p + 1), show slc T (k + 1) p = T p :: slc T k (p + 1) from rfl, List.cons_append, show p + 1 + k = p + (k + 1) by omega]
theorem wvl_s {c : Nat} : ∀ (l : List Nat) (a : Nat), wvl a (l ++ [c]) = wvl a l * 27 + (c - 96) := by
  intro l
  induction l with
  | nil => intro a; rfl
  | cons d l ih =>
    intro a
    show wvl (a * 27 + (d - 96)) (l ++ [c]) = wvl (a * 27 + (d - 96)) l * 27 + (c - 96)
    exact ih _
theorem dig_s {T : Nat → Nat} : ∀ k p a, dig T (k + 1) p a = dig T k p a * 10 + (T (p + k) - 48) := by
  intro k
  induction k with
  | zero => intro p a; rfl
  | succ k ih =>
    intro p a
    rw [dig, ih (p + 1), show dig T (k + 1) p a = dig T k (p + 1) (a * 10 + (T p - 48)) from rfl, show p + 1 + k = p + (k + 1) by omega]
def tMt (n : Nat) (T : Nat → Nat) (b : Nat) : Nat := if n ≤ b then 0 else if isL T b then (if 8 < tke n T b - b then 4 else 1) else if isD T b then (if 4 < tke n T b - b then 4 else 2) else if sgk (T b) = 1 then 4 else 3
def tMw (n : Nat) (T : Nat → Nat) (b : Nat) : Nat := if n ≤ b then 0 else if isL T b then wnm n T b else 0
def tMv (n : Nat) (T : Nat → Nat) (b : Nat) : Nat := if n ≤ b then 0 else if isL T b then 0 else if isD T b then nnm n T b else 0
/-- the TAPE that is read -/
def RdM (n : Nat) (T : Nat → Nat) (h : PH) : Prop := h.1 103 4 = nI n ∧ ∀ j, j < n → h.1 104 j = nI (T j)
/-- what nextToken leaves as it was -/
def ntF (h h' : PH) : Prop := fq [] [(103, 5), (103, 6), (103, 7), (103, 9)] h h' ∧ ∀ a b, (a, b) ≠ (103, 8) → h'.2 a b = h.2 a b
theorem ntF_0 {h : PH} : ntF h h := ⟨fq_0, fun _ _ _ => rfl⟩
theorem ntF_t {h h' h2 : PH} (a : ntF h h') (b : ntF h' h2) : ntF h h2 := ⟨fq_t a.1 b.1, fun x y q => (b.2 x y q).trans (a.2 x y q)⟩
theorem ntF_s {h : PH} {j : Nat} {x : Int32} (hj : (103, j) ∈ [(103, 5), (103, 6), (103, 7), (103, 9)]) : ntF h (hs h 103 j x) := ⟨fq_s fq_0 (Or.inr hj), fun _ _ _ => rfl⟩
theorem ntF_L {h : PH} {x : Int64} : ntF h (hsL h 103 8 x) := ⟨fq_0, fun a b q => by
  rw [hsL_2]
  by_cases e : a = 103
  · subst e
    rw [if_pos rfl, if_neg (fun z => q (by rw [z]))]
  · rw [if_neg e]⟩
theorem RdM_f {n : Nat} {T : Nat → Nat} {h h' : PH} (R : RdM n T h) (f : ntF h h') : RdM n T h' := ⟨by rw [f.1 103 4 (by simp) (by decide)]; exact R.1, fun j hj => by rw [f.1 104 j (by simp) (by simp)]; exact R.2 j hj⟩
section
variable {n : Nat} {T : Nat → Nat}
theorem signAt_x (hn : n ≤ 1000) {h : PH} (R : RdM n T h) {p : Nat} (hp : p ≤ n) : F_X12_signAt (nI p) h = some (nI (if p < n then T p else 0), h) := by
  unfold F_X12_signAt
  rw [R.1]
  by_cases g : p < n
  · rw [if_neg (nI_ge g (by omega)), if_pos (nI_in0 (by omega) (by omega)), nI_clamp (by omega), R.2 p g, if_pos g]
  · rw [if_pos (nI_le (by omega) (by omega)), if_neg g, nI_0]
theorem nt_word (B : TB (n, T)) {N b : Nat} (hb0 : b < n) : ∀ k j h, b + j ≤ eor (isL T) n b → eor (isL T) n b < k + (b + j) → RdM n T h → h.1 103 5 = nI (b + j) → h.1 103 6 = nI b → h.2 103 8 = lN (wvl 0 (slc T (min 8 j) b)) → okV (F_X12_nextToken_b109 N k h) (fun h' => h'.1 103 5 = nI (eor (isL T) n b) ∧ h'.1 103 6 = nI b ∧ h'.1 103 7 = nI (if 8 < eor (isL T) n b - b then 4 else 1) ∧ h'.2 103 8 = lN (wvl 0 (slc T (min 8 (eor (isL T) n b - b)) b)) ∧ h'.1 103 9 = h.1 103 9 ∧ ntF h h') := by
  have b1 : n ≤ 1000 := B.1
  have eb := eor_b (P := isL T) (n := n) (p := b) (by omega)
  intro k
  induction k with
  | zero => intro j h h1 h2; omega
  | succ k ih =>
    intro j h h1 h2 R hp hb1 hw
    unfold F_X12_nextToken_b109 F_X12_nextToken_b188 F_X12_nextToken_b208 F_X12_nextToken_b175
    rw [hp, signAt_x b1 R (by omega), bI_s]
    have fin : b + j = eor (isL T) n b → okV (if h.1 103 5 - h.1 103 6 ≤ 8 then hb (hs h 103 7 1) fun h1 => some h1 else hb (hs h 103 7 4) fun h1 => some h1) (fun h' => h'.1 103 5 = nI (eor (isL T) n b) ∧ h'.1 103 6 = nI b ∧ h'.1 103 7 = nI (if 8 < eor (isL T) n b - b then 4 else 1) ∧ h'.2 103 8 = lN (wvl 0 (slc T (min 8 (eor (isL T) n b - b)) b)) ∧ h'.1 103 9 = h.1 103 9 ∧ ntF h h') := fun e => by
      have ej : j = eor (isL T) n b - b := by omega
      rw [hp, hb1, pk_sub (by omega), show b + j - b = j by omega]
      by_cases g : j ≤ 8
      · rw [if_pos ((n_le_l 8 (by omega) (by omega)).mpr g), hb_e]
        refine okV_s ⟨?_, ?_, ?_, ?_, ?_, ntF_s (by decide)⟩
        · simp [hs_1, hp, e]
        · simp [hs_1, hb1]
        · simp [hs_1]; rw [if_neg (by omega)]; rfl
        · rw [hs_2, hw, ej]
        · simp [hs_1]
      · rw [if_neg (fun z => g ((n_le_l 8 (by omega) (by omega)).mp z)), hb_e]
        refine okV_s ⟨?_, ?_, ?_, ?_, ?_, ntF_s (by decide)⟩
        · simp [hs_1, hp, e]
        · simp [hs_1, hb1]
        · simp [hs_1]; rw [if_pos (by omega)]; rfl
        · rw [hs_2, hw, ej]
        · simp [hs_1]
    by_cases g : b + j < eor (isL T) n b
    · have hl := of_decide_eq_true (eor_in (P := isL T) (n := n) (p := b) (j := b + j) (by omega) g)
      have ok : T (b + j) < 128 := by omega
      have hjn : b + j < n := by omega
      rw [if_pos hjn, if_neg (fun z => by have := (n_lt_l 97 (by omega) (by omega)).mp z; omega), hp, signAt_x b1 R (by omega), bI_s, if_pos hjn, if_neg (fun z => by have := (l_lt_n 122 (by omega) (by omega)).mp z; omega), hp, hb1, pk_sub (by omega), show b + j - b = j by omega]
      by_cases g2 : 8 ≤ j
      · rw [if_pos ((l_le_n 8 (by omega) (by omega)).mpr g2)]
        simp only [hb_e]
        rw [nI_1]
        refine okV_m (ih (j + 1) _ (by omega) (by omega) (RdM_f R (ntF_s (by decide))) (by simp [hs_1]; rw [show b + j + 1 = b + (j + 1) by omega]) (by simp [hs_1, hb1]) (by rw [hs_2, hw, Nat.min_eq_left g2, Nat.min_eq_left (by omega)])) (fun h' q => ?_)
        exact ⟨q.1, q.2.1, q.2.2.1, q.2.2.2.1, by rw [q.2.2.2.2.1]; simp [hs_1], ntF_t (ntF_s (by decide)) q.2.2.2.2.2⟩
      · rw [if_neg (fun z => g2 ((l_le_n 8 (by omega) (by omega)).mp z)), signAt_x b1 R (by omega), bI_s, if_pos hjn, hw]
        simp only [hb_e]
        have hv : wvl 0 (slc T (min 8 j) b) ≤ 27 ^ 8 := by
          have := wvl_b (slc T (min 8 j) b) 0 (lets_slc (fun q q1 q2 => eor_in (n := n) (p := b) q1 (by omega)))
          rw [slc_len] at this
          have h8 : 27 ^ (min 8 j) ≤ 27 ^ 8 := Nat.pow_le_pow_right (by omega) (by omega)
          omega
        have e9 : lN (wvl 0 (slc T (min 8 j) b)) * 27 + (nI (T (b + j))).toInt64 - 96 = lN (wvl 0 (slc T (min 8 (j + 1)) b)) := by
          rw [show (27 : Int64) = lN 27 from rfl, lN_mul, nI_l (by omega), lN_add, show (96 : Int64) = lN 96 from rfl, lN_sub (by omega), Nat.min_eq_right (by omega), Nat.min_eq_right (by omega), slc_s, wvl_s]
          congr 1
          omega
        rw [e9, hsL_1, hp, nI_1]
        refine okV_m (ih (j + 1) _ (by omega) (by omega) (RdM_f R (ntF_t ntF_L (ntF_s (by decide)))) (by simp [hs_1]; rw [show b + j + 1 = b + (j + 1) by omega]) (by simp [hs_1, hsL_1, hb1]) (by rw [hs_2, hsL_2]; simp)) (fun h' q => ?_)
        exact ⟨q.1, q.2.1, q.2.2.1, q.2.2.2.1, by rw [q.2.2.2.2.1]; simp [hs_1, hsL_1], ntF_t (ntF_t ntF_L (ntF_s (by decide))) q.2.2.2.2.2⟩
    · have g3 : b + j = eor (isL T) n b := by omega
      by_cases g4 : b + j < n
      · have hnl : isL T (b + j) = false := by rw [g3]; exact eor_out (by omega) (by omega)
        have ok := of_decide_eq_true (B.2 (b + j) g4)
        dsimp only at ok
        have hnl2 := of_decide_eq_false hnl
        rw [if_pos g4]
        by_cases g5 : T (b + j) < 97
        · rw [if_pos ((n_lt_l 97 (by omega) (by omega)).mpr g5)]
          exact fin g3
        · rw [if_neg (fun z => g5 ((n_lt_l 97 (by omega) (by omega)).mp z)), hp, signAt_x b1 R (by omega), bI_s, if_pos g4, if_pos ((l_lt_n 122 (by omega) (by omega)).mpr (by omega))]
          exact fin g3
      · rw [if_neg g4, if_pos (by decide)]
        exact fin g3
theorem nt_num (B : TB (n, T)) {N b : Nat} (hb0 : b < n) : ∀ k j h, b + j ≤ eor (isD T) n b → eor (isD T) n b < k + (b + j) → RdM n T h → h.1 103 5 = nI (b + j) → h.1 103 6 = nI b → h.1 103 9 = nI (dig T (min 4 j) b 0) → okV (F_X12_nextToken_b224 N k h) (fun h' => h'.1 103 5 = nI (eor (isD T) n b) ∧ h'.1 103 6 = nI b ∧ h'.1 103 7 = nI (if 4 < eor (isD T) n b - b then 4 else 2) ∧ h'.1 103 9 = nI (dig T (min 4 (eor (isD T) n b - b)) b 0) ∧ h'.2 103 8 = h.2 103 8 ∧ ntF h h') := by
  have b1 : n ≤ 1000 := B.1
  have eb := eor_b (P := isD T) (n := n) (p := b) (by omega)
  intro k
  induction k with
  | zero => intro j h h1 h2; omega
  | succ k ih =>
    intro j h h1 h2 R hp hb1 hw
    unfold F_X12_nextToken_b224 F_X12_nextToken_b299 F_X12_nextToken_b318 F_X12_nextToken_b286
    rw [hp, signAt_x b1 R (by omega), bI_s]
    have fin : b + j = eor (isD T) n b → okV (if h.1 103 5 - h.1 103 6 ≤ 4 then hb (hs h 103 7 2) fun h1 => some h1 else hb (hs h 103 7 4) fun h1 => some h1) (fun h' => h'.1 103 5 = nI (eor (isD T) n b) ∧ h'.1 103 6 = nI b ∧ h'.1 103 7 = nI (if 4 < eor (isD T) n b - b then 4 else 2) ∧ h'.1 103 9 = nI (dig T (min 4 (eor (isD T) n b - b)) b 0) ∧ h'.2 103 8 = h.2 103 8 ∧ ntF h h') := fun e => by
      have ej : j = eor (isD T) n b - b := by omega
      rw [hp, hb1, pk_sub (by omega), show b + j - b = j by omega]
      by_cases g : j ≤ 4
      · rw [if_pos ((n_le_l 4 (by omega) (by omega)).mpr g), hb_e]
        refine okV_s ⟨?_, ?_, ?_, ?_, ?_, ntF_s (by decide)⟩
        · simp [hs_1, hp, e]
        · simp [hs_1, hb1]
        · simp [hs_1]; rw [if_neg (by omega)]; rfl
        · simp [hs_1]; rw [hw, ej]
        · rw [hs_2]
      · rw [if_neg (fun z => g ((n_le_l 4 (by omega) (by omega)).mp z)), hb_e]
        refine okV_s ⟨?_, ?_, ?_, ?_, ?_, ntF_s (by decide)⟩
        · simp [hs_1, hp, e]
        · simp [hs_1, hb1]
        · simp [hs_1]; rw [if_pos (by omega)]; rfl
        · simp [hs_1]; rw [hw, ej]
        · rw [hs_2]
    by_cases g : b + j < eor (isD T) n b
    · have hl := of_decide_eq_true (eor_in (P := isD T) (n := n) (p := b) (j := b + j) (by omega) g)
      have ok : T (b + j) < 128 := by omega
      have hjn : b + j < n := by omega
      rw [if_pos hjn, if_neg (fun z => by have := (n_lt_l 48 (by omega) (by omega)).mp z; omega), hp, signAt_x b1 R (by omega), bI_s, if_pos hjn, if_neg (fun z => by have := (l_lt_n 57 (by omega) (by omega)).mp z; omega), hp, hb1, pk_sub (by omega), show b + j - b = j by omega]
      by_cases g2 : 4 ≤ j
      · rw [if_pos ((l_le_n 4 (by omega) (by omega)).mpr g2)]
        simp only [hb_e]
        rw [nI_1]
        refine okV_m (ih (j + 1) _ (by omega) (by omega) (RdM_f R (ntF_s (by decide))) (by simp [hs_1]; rw [show b + j + 1 = b + (j + 1) by omega]) (by simp [hs_1, hb1]) (by simp [hs_1]; rw [hw, Nat.min_eq_left g2, Nat.min_eq_left (by omega)])) (fun h' q => ?_)
        exact ⟨q.1, q.2.1, q.2.2.1, q.2.2.2.1, by rw [q.2.2.2.2.1, hs_2], ntF_t (ntF_s (by decide)) q.2.2.2.2.2⟩
      · rw [if_neg (fun z => g2 ((l_le_n 4 (by omega) (by omega)).mp z)), signAt_x b1 R (by omega), bI_s, if_pos hjn, hw]
        simp only [hb_e]
        have e9 : nI (dig T (min 4 j) b 0) * 10 + nI (T (b + j)) - 48 = nI (dig T (min 4 (j + 1)) b 0) := by
          rw [show (10 : Int32) = nI 10 from rfl, pk_mul, nI_add, show (48 : Int32) = nI 48 from rfl, pk_sub (by omega), Nat.min_eq_right (by omega), Nat.min_eq_right (by omega), dig_s]
          congr 1
          omega
        have e10 : (hs h 103 9 (nI (dig T (min 4 (j + 1)) b 0))).1 103 5 = nI (b + j) := by simp [hs_1, hp]
        rw [e9, e10, nI_1]
        refine okV_m (ih (j + 1) _ (by omega) (by omega) (RdM_f R (ntF_t (ntF_s (by decide)) (ntF_s (by decide)))) (by simp [hs_1]; rw [show b + j + 1 = b + (j + 1) by omega]) (by simp [hs_1, hb1]) (by simp [hs_1])) (fun h' q => ?_)
        exact ⟨q.1, q.2.1, q.2.2.1, q.2.2.2.1, by rw [q.2.2.2.2.1, hs_2, hs_2], ntF_t (ntF_t (ntF_s (by decide)) (ntF_s (by decide))) q.2.2.2.2.2⟩
    · have g3 : b + j = eor (isD T) n b := by omega
      by_cases g4 : b + j < n
      · have hnl : isD T (b + j) = false := by rw [g3]; exact eor_out (by omega) (by omega)
        have ok := of_decide_eq_true (B.2 (b + j) g4)
        dsimp only at ok
        have hnl2 := of_decide_eq_false hnl
        rw [if_pos g4]
        by_cases g5 : T (b + j) < 48
        · rw [if_pos ((n_lt_l 48 (by omega) (by omega)).mpr g5)]
          exact fin g3
        · rw [if_neg (fun z => g5 ((n_lt_l 48 (by omega) (by omega)).mp z)), hp, signAt_x b1 R (by omega), bI_s, if_pos g4, if_pos ((l_lt_n 57 (by omega) (by omega)).mpr (by omega))]
          exact fin g3
      · rw [if_neg g4, if_pos (by decide)]
        exact fin g3
/-- the reference stands at the token that begins at b -/
def AtM (n : Nat) (T : Nat → Nat) (b : Nat) (h : PH) : Prop := RdM n T h ∧ h.1 103 5 = nI (tke n T b) ∧ h.1 103 6 = nI b ∧ h.1 103 7 = nI (tMt n T b) ∧ h.2 103 8 = lN (tMw n T b) ∧ h.1 103 9 = nI (tMv n T b)
theorem nt_b52 (B : TB (n, T)) {N b : Nat} (hN : 2000 ≤ N) (hbn : b ≤ n) {h : PH} (R : RdM n T h) (hp : h.1 103 5 = nI b) : okV (F_X12_nextToken_b52 N h) (fun h' => AtM n T b h' ∧ ntF h h') := by
  have b1 : n ≤ 1000 := B.1
  unfold F_X12_nextToken_b52
  simp only [hb_e]
  rw [hp]
  have e1 : (hs (hsL (hs h 103 6 (nI b)) 103 8 0) 103 9 0).1 103 5 = nI b := by simp [hs_1, hsL_1, hp]
  have e2 : (hs (hsL (hs h 103 6 (nI b)) 103 8 0) 103 9 0).1 103 4 = nI n := by simp [hs_1, hsL_1]; exact R.1
  have e6 : (hs (hsL (hs h 103 6 (nI b)) 103 8 0) 103 9 0).1 103 6 = nI b := by simp [hs_1, hsL_1]
  have e9 : (hs (hsL (hs h 103 6 (nI b)) 103 8 0) 103 9 0).1 103 9 = 0 := by simp [hs_1]
  have e8 : (hs (hsL (hs h 103 6 (nI b)) 103 8 0) 103 9 0).2 103 8 = 0 := by rw [hs_2, hsL_2]; simp
  have f0 : ntF h (hs (hsL (hs h 103 6 (nI b)) 103 8 0) 103 9 0) := ntF_t (ntF_t (ntF_s (by decide)) ntF_L) (ntF_s (by decide))
  have R0 := RdM_f R f0
  generalize hs (hsL (hs h 103 6 (nI b)) 103 8 0) 103 9 0 = k at *
  rw [e1, e2]
  by_cases g : b = n
  · subst g
    rw [if_pos rfl]
    refine okV_s ⟨⟨RdM_f R0 (ntF_s (by decide)), ?_, ?_, ?_, ?_, ?_⟩, ntF_t f0 (ntF_s (by decide))⟩
    · simp [hs_1, e1, tke_n (Nat.le_refl b)]
    · simp [hs_1, e6]
    · simp [hs_1, tMt, nI_0]
    · rw [hs_2, e8]; simp [tMw]; rfl
    · simp [hs_1, e9, tMv, nI_0]
  · have hb0 : b < n := by omega
    have ok := of_decide_eq_true (B.2 b hb0)
    dsimp only at ok
    rw [if_neg (fun z => g ((nI_eq (by omega) (by omega)).mp z)), if_pos (nI_in0 (by omega) (by omega)), nI_clamp (by omega), R0.2 b hb0, ib_e]
    unfold F_X12_nextToken_b212 F_X12_nextToken_b322 F_X12_nextToken_b345 F_X12_nextToken_b363 F_X12_nextToken_b367 F_X12_nextToken_b368
    have sgn : isL T b = false → isD T b = false → ∀ t : Nat, t = (if sgk (T b) = 1 then 4 else 3) → okV (some (hs (hs k 103 5 (nI b + 1)) 103 7 (nI t))) (fun h' => AtM n T b h' ∧ ntF h h') := fun hl hd t ht => by
      have k1 : tke n T b = b + 1 := by unfold tke; rw [if_neg (by omega), hl, hd]; rfl
      refine okV_s ⟨⟨RdM_f R0 (ntF_t (ntF_s (by decide)) (ntF_s (by decide))), ?_, ?_, ?_, ?_, ?_⟩, ntF_t f0 (ntF_t (ntF_s (by decide)) (ntF_s (by decide)))⟩
      · simp [hs_1, k1, nI_1]
      · simp [hs_1, e6]
      · simp [hs_1]; unfold tMt; rw [if_neg (by omega), hl, hd, ht]; rfl
      · rw [hs_2, hs_2, e8]; unfold tMw; rw [if_neg (by omega), hl]; rfl
      · simp [hs_1, e9]; unfold tMv; rw [if_neg (by omega), hl, hd]; rfl
    have sgs : isL T b = false → isD T b = false → okV (if nI (T b) < 40 then (if nI (T b) = 45 then some (hs (hs k 103 5 (nI b + 1)) 103 7 3) else if nI (T b) < 59 then some (hs (hs k 103 5 (nI b + 1)) 103 7 4) else if 61 < nI (T b) then some (hs (hs k 103 5 (nI b + 1)) 103 7 4) else some (hs (hs k 103 5 (nI b + 1)) 103 7 3)) else if nI (T b) ≤ 43 then some (hs (hs k 103 5 (nI b + 1)) 103 7 3) else (if nI (T b) = 45 then some (hs (hs k 103 5 (nI b + 1)) 103 7 3) else if nI (T b) < 59 then some (hs (hs k 103 5 (nI b + 1)) 103 7 4) else if 61 < nI (T b) then some (hs (hs k 103 5 (nI b + 1)) 103 7 4) else some (hs (hs k 103 5 (nI b + 1)) 103 7 3))) (fun h' => AtM n T b h' ∧ ntF h h') := fun hl hd => by
      have key : (sgk (T b) = 1) ↔ ¬ ((40 ≤ T b ∧ T b ≤ 43) ∨ T b = 45 ∨ (59 ≤ T b ∧ T b ≤ 61)) := by
        unfold sgk
        constructor
        · intro q z
          rcases (show T b = 40 ∨ T b = 41 ∨ T b = 42 ∨ T b = 43 ∨ T b = 45 ∨ T b = 59 ∨ T b = 60 ∨ T b = 61 by omega) with e | e | e | e | e | e | e | e <;> rw [e] at q <;> exact absurd q (by decide)
        · intro q
          rw [if_neg (by omega), if_neg (by omega), if_neg (by omega), if_neg (by omega), if_neg (by omega), if_neg (by omega), if_neg (by omega), if_neg (by omega)]
      have s3 : sgk (T b) ≠ 1 → okV (some (hs (hs k 103 5 (nI b + 1)) 103 7 3)) (fun h' => AtM n T b h' ∧ ntF h h') := fun q => sgn hl hd 3 (by rw [if_neg q])
      have s4 : sgk (T b) = 1 → okV (some (hs (hs k 103 5 (nI b + 1)) 103 7 4)) (fun h' => AtM n T b h' ∧ ntF h h') := fun q => sgn hl hd 4 (by rw [if_pos q])
      by_cases q1 : T b < 40
      · rw [if_pos ((n_lt_l 40 (by omega) (by omega)).mpr q1), if_neg (fun z => by have := (n_eq_l 45 (by omega) (by omega)).mp z; omega), if_pos ((n_lt_l 59 (by omega) (by omega)).mpr (by omega))]
        exact s4 (key.mpr (by omega))
      · rw [if_neg (fun z => q1 ((n_lt_l 40 (by omega) (by omega)).mp z))]
        by_cases q2 : T b ≤ 43
        · rw [if_pos ((n_le_l 43 (by omega) (by omega)).mpr q2)]
          exact s3 (fun z => key.mp z (by omega))
        · rw [if_neg (fun z => q2 ((n_le_l 43 (by omega) (by omega)).mp z))]
          by_cases q3 : T b = 45
          · rw [if_pos ((n_eq_l 45 (by omega) (by omega)).mpr q3)]
            exact s3 (fun z => key.mp z (by omega))
          · rw [if_neg (fun z => q3 ((n_eq_l 45 (by omega) (by omega)).mp z))]
            by_cases q4 : T b < 59
            · rw [if_pos ((n_lt_l 59 (by omega) (by omega)).mpr q4)]
              exact s4 (key.mpr (by omega))
            · rw [if_neg (fun z => q4 ((n_lt_l 59 (by omega) (by omega)).mp z))]
              by_cases q5 : 61 < T b
              · rw [if_pos ((l_lt_n 61 (by omega) (by omega)).mpr q5)]
                exact s4 (key.mpr (by omega))
              · rw [if_neg (fun z => q5 ((l_lt_n 61 (by omega) (by omega)).mp z))]
                exact s3 (fun z => key.mp z (by omega))
    simp only [hb_e, e1]
    have nonL : isL T b = false → okV (if nI (T b) < 48 then (if nI (T b) < 40 then (if nI (T b) = 45 then some (hs (hs k 103 5 (nI b + 1)) 103 7 3) else if nI (T b) < 59 then some (hs (hs k 103 5 (nI b + 1)) 103 7 4) else if 61 < nI (T b) then some (hs (hs k 103 5 (nI b + 1)) 103 7 4) else some (hs (hs k 103 5 (nI b + 1)) 103 7 3)) else if nI (T b) ≤ 43 then some (hs (hs k 103 5 (nI b + 1)) 103 7 3) else (if nI (T b) = 45 then some (hs (hs k 103 5 (nI b + 1)) 103 7 3) else if nI (T b) < 59 then some (hs (hs k 103 5 (nI b + 1)) 103 7 4) else if 61 < nI (T b) then some (hs (hs k 103 5 (nI b + 1)) 103 7 4) else some (hs (hs k 103 5 (nI b + 1)) 103 7 3))) else if 57 < nI (T b) then (if nI (T b) < 40 then (if nI (T b) = 45 then some (hs (hs k 103 5 (nI b + 1)) 103 7 3) else if nI (T b) < 59 then some (hs (hs k 103 5 (nI b + 1)) 103 7 4) else if 61 < nI (T b) then some (hs (hs k 103 5 (nI b + 1)) 103 7 4) else some (hs (hs k 103 5 (nI b + 1)) 103 7 3)) else if nI (T b) ≤ 43 then some (hs (hs k 103 5 (nI b + 1)) 103 7 3) else (if nI (T b) = 45 then some (hs (hs k 103 5 (nI b + 1)) 103 7 3) else if nI (T b) < 59 then some (hs (hs k 103 5 (nI b + 1)) 103 7 4) else if 61 < nI (T b) then some (hs (hs k 103 5 (nI b + 1)) 103 7 4) else some (hs (hs k 103 5 (nI b + 1)) 103 7 3))) else F_X12_nextToken_b224 N N k) (fun h' => AtM n T b h' ∧ ntF h h') := fun hl => by
      by_cases q1 : T b < 48
      · rw [if_pos ((n_lt_l 48 (by omega) (by omega)).mpr q1)]
        exact sgs hl (decide_eq_false (by omega))
      · rw [if_neg (fun z => q1 ((n_lt_l 48 (by omega) (by omega)).mp z))]
        by_cases q2 : 57 < T b
        · rw [if_pos ((l_lt_n 57 (by omega) (by omega)).mpr q2)]
          exact sgs hl (decide_eq_false (by omega))
        · rw [if_neg (fun z => q2 ((l_lt_n 57 (by omega) (by omega)).mp z))]
          have hd : isD T b = true := decide_eq_true (by omega)
          have ee : eor (isD T) n b = tke n T b := by unfold tke; rw [if_neg (by omega), hl, hd]; rfl
          have te := tke_b (T := T) hb0
          refine okV_m (nt_num B (N := N) hb0 N 0 k (by rw [ee]; omega) (by rw [ee]; omega) R0 e1 e6 (by rw [e9]; rfl)) (fun h' q => ?_)
          rw [ee] at q
          refine ⟨⟨RdM_f R0 q.2.2.2.2.2, q.1, q.2.1, ?_, ?_, ?_⟩, ntF_t f0 q.2.2.2.2.2⟩
          · rw [q.2.2.1]; unfold tMt; rw [if_neg (show ¬ n ≤ b by omega), hl, hd]; rfl
          · rw [q.2.2.2.2.1, e8]; unfold tMw; rw [if_neg (by omega), hl]; rfl
          · rw [q.2.2.2.1]; unfold tMv; rw [if_neg (by omega), hl, hd]; rfl
    by_cases q1 : T b < 97
    · rw [if_pos ((n_lt_l 97 (by omega) (by omega)).mpr q1)]
      exact nonL (decide_eq_false (by omega))
    · rw [if_neg (fun z => q1 ((n_lt_l 97 (by omega) (by omega)).mp z))]
      by_cases q2 : 122 < T b
      · rw [if_pos ((l_lt_n 122 (by omega) (by omega)).mpr q2)]
        exact nonL (decide_eq_false (by omega))
      · rw [if_neg (fun z => q2 ((l_lt_n 122 (by omega) (by omega)).mp z))]
        have hl : isL T b = true := decide_eq_true (by omega)
        have ee : eor (isL T) n b = tke n T b := by unfold tke; rw [if_neg (by omega), hl]; rfl
        have te := tke_b (T := T) hb0
        refine okV_m (nt_word B (N := N) hb0 N 0 k (by rw [ee]; omega) (by rw [ee]; omega) R0 e1 e6 (by rw [e8]; rfl)) (fun h' q => ?_)
        rw [ee] at q
        refine ⟨⟨RdM_f R0 q.2.2.2.2.2, q.1, q.2.1, ?_, ?_, ?_⟩, ntF_t f0 q.2.2.2.2.2⟩
        · rw [q.2.2.1]; unfold tMt; rw [if_neg (show ¬ n ≤ b by omega), hl]; rfl
        · rw [q.2.2.2.1]; unfold tMw; rw [if_neg (by omega), hl]; rfl
        · rw [q.2.2.2.2.1, e9]; unfold tMv; rw [if_neg (by omega), hl]; rfl
theorem nt_b0 (B : TB (n, T)) {N : Nat} (hN : 2000 ≤ N) : ∀ k p h, p ≤ n → n < k + p → RdM n T h → h.1 103 5 = nI p → okV (F_X12_nextToken_b0 N k h) (fun h' => AtM n T (skp n T p) h' ∧ ntF h h') := by
  have b1 : n ≤ 1000 := B.1
  intro k
  induction k with
  | zero => intro p h h1 h2; omega
  | succ k ih =>
    intro p h h1 h2 R hp
    unfold F_X12_nextToken_b0 F_X12_nextToken_b39
    rw [hp, R.1]
    by_cases g : p = n
    · rw [if_pos (nI_le (by omega) (by omega))]
      have : skp n T p = p := by unfold skp; exact eor_n (by omega)
      rw [this]
      exact nt_b52 B hN h1 R hp
    · have ok := of_decide_eq_true (B.2 p (by dsimp only; omega))
      dsimp only at ok
      rw [if_neg (nI_ge (by omega) (by omega)), if_pos (nI_in0 (by omega) (by omega)), nI_clamp (by omega), R.2 p (by omega), if_pos (nI_in0 (by omega) (by omega))]
      simp only [hb_e]
      rw [nI_1]
      have step : isB T p = true → okV (F_X12_nextToken_b0 N k (hs h 103 5 (nI (p + 1)))) (fun h' => AtM n T (skp n T p) h' ∧ ntF h h') := fun hb0 => by
        have : skp n T p = skp n T (p + 1) := by unfold skp; exact eor_t (by omega) hb0
        rw [this]
        exact okV_m (ih (p + 1) _ (by omega) (by omega) (RdM_f R (ntF_s (by decide))) (by simp [hs_1])) (fun h' q => ⟨q.1, ntF_t (ntF_s (by decide)) q.2⟩)
      by_cases g1 : T p = 32
      · rw [if_pos (by rw [g1]; rfl)]
        exact step (decide_eq_true (Or.inl g1))
      · rw [if_neg (fun z => g1 ((n_eq_l 32 (by omega) (by omega)).mp z))]
        by_cases g2 : T p = 10
        · rw [if_pos (by rw [g2]; rfl)]
          exact step (decide_eq_true (Or.inr g2))
        · rw [if_neg (fun z => g2 ((n_eq_l 10 (by omega) (by omega)).mp z))]
          have : skp n T p = p := by unfold skp; exact eor_f (decide_eq_false (by omega))
          rw [this]
          exact nt_b52 B hN h1 R hp
theorem next_x (B : TB (n, T)) {N : Nat} (hN : 2000 ≤ N) {p : Nat} (hpn : p ≤ n) {h : PH} (R : RdM n T h) (hp : h.1 103 5 = nI p) : okV (F_X12_nextToken N h) (fun h' => AtM n T (skp n T p) h' ∧ ntF h h') := by
  have b1 : n ≤ 1000 := B.1
  exact nt_b0 B hN N p h hpn (by omega) R hp
/-- from token i to token i + 1 -/
theorem next_i (B : TB (n, T)) {N : Nat} (hN : 2000 ≤ N) {i : Nat} {h : PH} (A : AtM n T (tkb n T i) h) : okV (F_X12_nextToken N h) (fun h' => AtM n T (tkb n T (i + 1)) h' ∧ ntF h h') := next_x B hN (tps_le (i + 1)) A.1 A.2.1
end
