/-! the reference's token, by its kind -/
theorem wkn_ge {v : Nat} : ∀ ws k, 2 ≤ k → wkn v k ws = 1 ∨ k ≤ wkn v k ws := by
  intro ws
  induction ws with
  | nil => intro k _; exact Or.inl rfl
  | cons w ws ih =>
    intro k hk
    unfold wkn
    by_cases e : v = wvl 0 w
    · rw [if_pos e]; exact Or.inr (Nat.le_refl _)
    · rw [if_neg e]
      rcases ih (k + 1) (by omega) with q | q
      · exact Or.inl q
      · exact Or.inr (by omega)
theorem wkn_iff {v : Nat} : ∀ (ws : List (List Nat)) (k i : Nat), 2 ≤ k → i < ws.length → (ws.map (wvl 0)).Nodup → (wkn v k ws = k + i ↔ v = wvl 0 (ws.getD i [])) := by
  intro ws
  induction ws with
  | nil => intro k i _ h; simp at h
  | cons w ws ih =>
    intro k i hk hi nd
    rw [List.map_cons, List.nodup_cons] at nd
    unfold wkn
    by_cases e : v = wvl 0 w
    · rw [if_pos e]
      cases i with
      | zero => simp [e]
      | succ i =>
        simp at hi
        constructor
        · intro q; omega
        · intro q
          exfalso
          apply nd.1
          rw [← e, q]
          simp
          exact ⟨ws.getD i [], by rw [List.getD_eq_getElem?_getD, List.getElem?_eq_getElem hi]; simp, by simp⟩
    · rw [if_neg e]
      cases i with
      | zero =>
        constructor
        · intro q
          rcases wkn_ge (v := v) ws (k + 1) (by omega) with z | z <;> omega
        · intro q; exact absurd q e
      | succ i =>
        have := ih (k + 1) i (by omega) (by simpa using hi) nd.2
        rw [show k + 1 + i = k + (i + 1) by omega] at this
        rw [this]
        simp
def wnums : List Nat := [9673153, 583, 90302, 90090, 237292, 7554780, 10631, 1111, 423, 60114, 47, 307058, 1132, 4419, 247162, 10502425, 295403683, 180392, 3436200, 131638, 555, 2232, 400577]
theorem WW_nums : WW.map (wvl 0) = wnums := by decide +kernel
theorem WW_nd : (WW.map (wvl 0)).Nodup := by rw [WW_nums]; decide +kernel
theorem WW_len : WW.length = 23 := by decide +kernel
theorem wk_i {v : Nat} (i : Nat) {x : Nat} (hi : i < 23) (hx : wnums.getD i 0 = x) : wkn v 12 WW = 12 + i ↔ v = x := by
  rw [wkn_iff WW 12 i (by omega) (by rw [WW_len]; exact hi) WW_nd]
  have : wvl 0 (WW.getD i []) = wnums.getD i 0 := by
    have h1 : i < WW.length := by rw [WW_len]; exact hi
    rw [← WW_nums, List.getD_eq_getElem?_getD, List.getD_eq_getElem?_getD, List.getElem?_map, List.getElem?_eq_getElem h1]
    rfl
  rw [this, hx]
theorem lgc_0 (u v : Int64) : lg_cmp u v = 0 ↔ u = v := by
  unfold lg_cmp
  constructor
  · intro q
    by_cases e : u = v
    · exact e
    · by_cases e2 : v < u
      · simp [e2] at q
      · simp [e2, e] at q
  · intro q
    rw [q]
    simp
theorem lgc_p {u v : Int64} : 0 < lg_cmp u v ↔ v < u := by
  unfold lg_cmp
  by_cases e2 : v < u
  · simp [e2]
  · by_cases e : u = v
    · simp [e]
    · simp [e2, e]
theorem lgc_n {u v : Int64} : lg_cmp u v < 0 ↔ u < v := by
  unfold lg_cmp
  by_cases e2 : v < u
  · simp [e2]
    exact Int64.le_of_lt e2
  · by_cases e : u = v
    · simp [e]
    · simp [e2, e]
      exact Int64.lt_of_le_of_ne (Int64.not_lt.mp e2) e
section
variable {n : Nat} {T : Nat → Nat} {b : Nat} {h : PH}
theorem sgk_le (c : Nat) : sgk c = 1 ∨ (4 ≤ sgk c ∧ sgk c ≤ 11) := by
  unfold sgk
  repeat' split
  all_goals omega
/-- kinds: what letters, digits and signs are -/
theorem kd_word (B : TB (n, T)) (A : AtM n T b h) (hb : b ≤ n) (i : Nat) {x : Nat} (hi : i < 23) (hx : wnums.getD i 0 = x) : (h.1 103 7 = 1 ∧ h.2 103 8 = lN x) ↔ tkk n T b = 12 + i := by
  obtain ⟨R, a5, a6, a7, a8, a9⟩ := A
  rw [a7, a8]
  have xb : 8 < x ∧ x < 2 ^ 31 := by
    rw [← hx]
    have : ∀ i, i < 23 → 8 < wnums.getD i 0 ∧ wnums.getD i 0 < 2 ^ 31 := by decide +kernel
    exact this i hi
  by_cases g : n ≤ b
  · have e1 : tMt n T b = 0 := by unfold tMt; rw [if_pos g]
    have e2 : tkk n T b = 0 := by unfold tkk; rw [if_pos g]
    rw [e1, e2]
    exact ⟨fun q => absurd q.1 (by decide), fun q => by omega⟩
  · by_cases gl : isL T b = true
    · have te := tke_b (T := T) (show b < n by omega)
      have ee : eor (isL T) n b = tke n T b := by unfold tke; rw [if_neg g, gl]; rfl
      have wb : wnm n T b < 2 ^ 63 := by
        have := wvl_b (slc T (min 8 (tke n T b - b)) b) 0 (lets_slc (fun q q1 q2 => eor_in (n := n) (p := b) q1 (by rw [ee]; omega)))
        rw [slc_len] at this
        have h8 : 27 ^ (min 8 (tke n T b - b)) ≤ 27 ^ 8 := Nat.pow_le_pow_right (by omega) (by omega)
        unfold wnm
        omega
      have e1 : tMt n T b = if 8 < tke n T b - b then 4 else 1 := by unfold tMt; rw [if_neg g, if_pos gl]
      have e2 : tkk n T b = if 8 < tke n T b - b then 1 else if wnm n T b ≤ 8 then 3 else wkn (wnm n T b) 12 WW := by unfold tkk; rw [if_neg g, if_pos gl]
      have e3 : tMw n T b = wnm n T b := by unfold tMw; rw [if_neg g, if_pos gl]
      rw [e1, e2, e3]
      by_cases q : 8 < tke n T b - b
      · rw [if_pos q, if_pos q]
        exact ⟨fun z => absurd z.1 (by decide), fun z => by omega⟩
      · rw [if_neg q, if_neg q]
        by_cases q2 : wnm n T b ≤ 8
        · rw [if_pos q2]
          exact ⟨fun z => by have := (pk_lEQ wb (by omega)).mp z.2; omega, fun z => by omega⟩
        · rw [if_neg q2, wk_i i hi hx]
          exact ⟨fun z => (pk_lEQ wb (by omega)).mp z.2, fun z => ⟨rfl, by rw [z]⟩⟩
    · have gl' : isL T b = false := by simpa using gl
      have e2 : ∀ j, tkk n T b = 12 + j → False := by
        intro j q
        unfold tkk at q
        rw [if_neg g, gl'] at q
        have := sgk_le (T b)
        split at q
        · rename_i z; cases z
        · split at q
          · split at q <;> omega
          · omega
      have e1 : tMt n T b ≠ 1 := by
        unfold tMt
        rw [if_neg g, gl']
        have := sgk_le (T b)
        split
        · rename_i z; cases z
        · split
          · split <;> omega
          · split <;> omega
      have e4 : tMt n T b < 5 := by
        unfold tMt
        repeat' split
        all_goals omega
      exact ⟨fun z => absurd ((n_eq_l 1 (by omega) (by omega)).mp z.1) e1, fun z => (e2 i z).elim⟩
theorem isWord_x (B : TB (n, T)) (A : AtM n T b h) (hb : b ≤ n) (i : Nat) {x : Nat} (hi : i < 23) (hx : wnums.getD i 0 = x) : F_X12_isWord (lN x) h = some (if tkk n T b = 12 + i then 1 else 0, h) := by
  have key := kd_word B A hb i hi hx
  unfold F_X12_isWord F_X12_isWord_b21
  have lc := lgc_0
  by_cases g : h.1 103 7 = 1
  · rw [if_pos g]
    by_cases g2 : h.2 103 8 = lN x
    · rw [if_pos ((lc _ _).mpr g2), if_pos (key.mp ⟨g, g2⟩)]
    · rw [if_neg (fun z => g2 ((lc _ _).mp z)), if_neg (fun z => g2 (key.mpr z).2)]
  · rw [if_neg g, if_neg (fun z => g (key.mpr z).1)]
theorem isSign_x (B : TB (n, T)) (A : AtM n T b h) (hb : b ≤ n) {c : Nat} (hc : sgk c ≠ 1) (hc2 : c < 128) : F_X12_isSign (nI c) h = some (if tkk n T b = sgk c then 1 else 0, h) := by
  obtain ⟨R, a5, a6, a7, a8, a9⟩ := A
  have b1 : n ≤ 1000 := B.1
  have sc := sgk_le c
  unfold F_X12_isSign F_X12_isSign_b25
  rw [a7, a6]
  have e4 : tMt n T b < 5 := by
    unfold tMt
    repeat' split
    all_goals omega
  by_cases g : n ≤ b
  · have e1 : tMt n T b = 0 := by unfold tMt; rw [if_pos g]
    have e2 : tkk n T b = 0 := by unfold tkk; rw [if_pos g]
    rw [e1, e2, if_neg (by decide), if_neg (by omega)]
  · have ok := of_decide_eq_true (B.2 b (by dsimp only; omega))
    dsimp only at ok
    by_cases gl : isL T b = true
    · have e1 : tMt n T b = if 8 < tke n T b - b then 4 else 1 := by unfold tMt; rw [if_neg g, if_pos gl]
      have e2 : tkk n T b = if 8 < tke n T b - b then 1 else if wnm n T b ≤ 8 then 3 else wkn (wnm n T b) 12 WW := by unfold tkk; rw [if_neg g, if_pos gl]
      rw [if_neg (fun z => by have := (n_eq_l 3 (by omega) (by omega)).mp z; rw [e1] at this; split at this <;> omega)]
      rw [if_neg]
      intro z
      rw [e2] at z
      split at z
      · omega
      · split at z
        · omega
        · rcases wkn_ge (v := wnm n T b) WW 12 (by omega) with q | q <;> omega
    · have gl' : isL T b = false := by simpa using gl
      by_cases gd : isD T b = true
      · have e1 : tMt n T b = if 4 < tke n T b - b then 4 else 2 := by unfold tMt; rw [if_neg g, gl', gd]; rfl
        have e2 : tkk n T b = if 4 < tke n T b - b then 1 else 2 := by unfold tkk; rw [if_neg g, gl', gd]; rfl
        rw [if_neg (fun z => by have := (n_eq_l 3 (by omega) (by omega)).mp z; rw [e1] at this; split at this <;> omega)]
        rw [if_neg]
        intro z
        rw [e2] at z
        split at z <;> omega
      · have gd' : isD T b = false := by simpa using gd
        have e1 : tMt n T b = if sgk (T b) = 1 then 4 else 3 := by unfold tMt; rw [if_neg g, gl', gd']; rfl
        have e2 : tkk n T b = sgk (T b) := by unfold tkk; rw [if_neg g, gl', gd']; rfl
        rw [e1, e2]
        by_cases q : sgk (T b) = 1
        · rw [if_pos q, if_neg (by decide), if_neg (by omega)]
        · rw [if_neg q, if_pos (by decide), if_pos (nI_in0 (by omega) (by omega)), nI_clamp (by omega), R.2 b (by omega)]
          have inj : ∀ c, c < 128 → ∀ d, d < 128 → sgk c ≠ 1 → sgk c = sgk d → c = d := by decide +kernel
          by_cases q2 : T b = c
          · rw [if_pos (by rw [q2]), if_pos (by rw [q2])]
          · rw [if_neg (fun z => q2 ((nI_eq (by omega) (by omega)).mp z)), if_neg (fun z => q2 (inj _ (by omega) _ hc2 q z))]
/-- NUMBER, the end, a letter a to h -/
theorem kd_num (B : TB (n, T)) (A : AtM n T b h) (hb : b ≤ n) : (h.1 103 7 = 2 ↔ tkk n T b = 2) ∧ (h.1 103 7 = 0 ↔ tkk n T b = 0) ∧ ((h.1 103 7 = 1 ∧ ∃ w : Nat, w ≤ 8 ∧ h.2 103 8 = lN w) ↔ tkk n T b = 3) ∧ (tkk n T b = 2 → h.1 103 9 = nI (tkv n T b) ∧ tkv n T b < 10000) ∧ (tkk n T b = 3 → h.2 103 8 = lN (tkv n T b + 1) ∧ tkv n T b < 8) ∧ (h.1 103 7 = 1 → ∃ w : Nat, 0 < w ∧ w < 2 ^ 63 ∧ h.2 103 8 = lN w) := by
  obtain ⟨R, a5, a6, a7, a8, a9⟩ := A
  rw [a7, a8, a9]
  have e4 : tMt n T b < 5 := by
    unfold tMt
    repeat' split
    all_goals omega
  rw [n_eq_l 2 (by omega) (by omega), show (nI (tMt n T b) = 0 ↔ tMt n T b = 0) from n_eq_l 0 (by omega) (by omega), n_eq_l 1 (by omega) (by omega)]
  by_cases g : n ≤ b
  · have e1 : tMt n T b = 0 := by unfold tMt; rw [if_pos g]
    have e2 : tkk n T b = 0 := by unfold tkk; rw [if_pos g]
    rw [e1, e2]
    exact ⟨by omega, by omega, ⟨fun z => by omega, fun z => by omega⟩, fun z => by omega, fun z => by omega, fun z => by omega⟩
  · have ok := of_decide_eq_true (B.2 b (by dsimp only; omega))
    dsimp only at ok
    have te := tke_b (T := T) (show b < n by omega)
    by_cases gl : isL T b = true
    · have ee : eor (isL T) n b = tke n T b := by unfold tke; rw [if_neg g, gl]; rfl
      have wb : wnm n T b < 2 ^ 63 ∧ 0 < wnm n T b := by
        have l8 : lets (slc T (min 8 (tke n T b - b)) b) := lets_slc (fun q q1 q2 => eor_in (n := n) (p := b) q1 (by rw [ee]; omega))
        have := wvl_b (slc T (min 8 (tke n T b - b)) b) 0 l8
        rw [slc_len] at this
        have h8 : 27 ^ (min 8 (tke n T b - b)) ≤ 27 ^ 8 := Nat.pow_le_pow_right (by omega) (by omega)
        refine ⟨by unfold wnm; omega, ?_⟩
        unfold wnm
        obtain ⟨k, hk⟩ : ∃ k, min 8 (tke n T b - b) = k + 1 := ⟨min 8 (tke n T b - b) - 1, by omega⟩
        rw [hk] at l8 ⊢
        have c1 := l8 (T b) (by simp [slc])
        have mono : ∀ (l : List Nat) (a : Nat), a ≤ wvl a l := by
          intro l
          induction l with
          | nil => intro a; exact Nat.le_refl _
          | cons c l ih => intro a; have := ih (a * 27 + (c - 96)); unfold wvl; omega
        have := mono (slc T k (b + 1)) (0 * 27 + (T b - 96))
        show 0 < wvl (0 * 27 + (T b - 96)) (slc T k (b + 1))
        omega
      have e1 : tMt n T b = if 8 < tke n T b - b then 4 else 1 := by unfold tMt; rw [if_neg g, if_pos gl]
      have e2 : tkk n T b = if 8 < tke n T b - b then 1 else if wnm n T b ≤ 8 then 3 else wkn (wnm n T b) 12 WW := by unfold tkk; rw [if_neg g, if_pos gl]
      have e3 : tMw n T b = wnm n T b := by unfold tMw; rw [if_neg g, if_pos gl]
      have e5 : tkv n T b = if 8 < tke n T b - b then 0 else if wnm n T b ≤ 8 then wnm n T b - 1 else 0 := by unfold tkv; rw [if_neg g, if_pos gl]
      rw [e1, e2, e3, e5]
      by_cases q : 8 < tke n T b - b
      · rw [if_pos q, if_pos q, if_pos q]
        exact ⟨by omega, by omega, ⟨fun z => by omega, fun z => by omega⟩, fun z => by omega, fun z => by omega, fun z => by omega⟩
      · rw [if_neg q, if_neg q, if_neg q]
        by_cases q2 : wnm n T b ≤ 8
        · rw [if_pos q2, if_pos q2]
          exact ⟨by omega, by omega, ⟨fun z => rfl, fun z => ⟨rfl, _, q2, rfl⟩⟩, fun z => by omega, fun z => ⟨by congr 1; omega, by omega⟩, fun z => ⟨_, wb.2, wb.1, rfl⟩⟩
        · rw [if_neg q2, if_neg q2]
          have wg := wkn_ge (v := wnm n T b) WW 12 (by omega)
          exact ⟨by omega, by omega, ⟨fun z => by obtain ⟨w, w1, w2⟩ := z.2; have := (pk_lEQ wb.1 (by omega)).mp w2; omega, fun z => by omega⟩, fun z => by omega, fun z => by omega, fun z => ⟨_, wb.2, wb.1, rfl⟩⟩
    · have gl' : isL T b = false := by simpa using gl
      by_cases gd : isD T b = true
      · have ee : eor (isD T) n b = tke n T b := by unfold tke; rw [if_neg g, gl', gd]; rfl
        have e1 : tMt n T b = if 4 < tke n T b - b then 4 else 2 := by unfold tMt; rw [if_neg g, gl', gd]; rfl
        have e2 : tkk n T b = if 4 < tke n T b - b then 1 else 2 := by unfold tkk; rw [if_neg g, gl', gd]; rfl
        have e3 : tMv n T b = nnm n T b := by unfold tMv; rw [if_neg g, gl', gd]; rfl
        have e5 : tkv n T b = nnm n T b := by unfold tkv; rw [if_neg g, gl', gd]; rfl
        rw [e1, e2, e3, e5]
        have db : ∀ k p a, (∀ q, p ≤ q → q < p + k → isD T q = true) → dig T k p a < (a + 1) * 10 ^ k := by
          intro k
          induction k with
          | zero => intro p a _; show a < (a + 1) * 1; omega
          | succ k ih =>
            intro p a hd
            have d1 := of_decide_eq_true (hd p (by omega) (by omega))
            have := ih (p + 1) (a * 10 + (T p - 48)) (fun q q1 q2 => hd q (by omega) (by omega))
            have h2 : (a * 10 + (T p - 48) + 1) * 10 ^ k ≤ ((a + 1) * 10) * 10 ^ k := Nat.mul_le_mul_right _ (by omega)
            rw [Nat.pow_succ, Nat.mul_comm (10 ^ k) 10, ← Nat.mul_assoc]
            show dig T k (p + 1) (a * 10 + (T p - 48)) < _
            omega
        have nb : nnm n T b < 10000 := by
          have := db (min 4 (tke n T b - b)) b 0 (fun q q1 q2 => eor_in (n := n) (p := b) q1 (by rw [ee]; omega))
          have h8 : 10 ^ (min 4 (tke n T b - b)) ≤ 10 ^ 4 := Nat.pow_le_pow_right (by omega) (by omega)
          unfold nnm
          omega
        by_cases q : 4 < tke n T b - b
        · rw [if_pos q, if_pos q]
          exact ⟨by omega, by omega, ⟨fun z => by omega, fun z => by omega⟩, fun z => by omega, fun z => by omega, fun z => by omega⟩
        · rw [if_neg q, if_neg q]
          exact ⟨by omega, by omega, ⟨fun z => by omega, fun z => by omega⟩, fun z => ⟨rfl, nb⟩, fun z => by omega, fun z => by omega⟩
      · have gd' : isD T b = false := by simpa using gd
        have e1 : tMt n T b = if sgk (T b) = 1 then 4 else 3 := by unfold tMt; rw [if_neg g, gl', gd']; rfl
        have e2 : tkk n T b = sgk (T b) := by unfold tkk; rw [if_neg g, gl', gd']; rfl
        have sc := sgk_le (T b)
        rw [e1, e2]
        refine ⟨?_, ?_, ⟨fun z => ?_, fun z => by omega⟩, fun z => by omega, fun z => by omega, fun z => ?_⟩
        · split <;> omega
        · split <;> omega
        · have := z.1
          split at this <;> omega
        · split at z <;> omega
/-- what fact() answers -/
def fMk (r : Bool) (k v : Nat) : Nat := if r then (if 25 ≤ k ∧ k ≤ 34 then k - 24 else 0) else if k = 3 then 1 + v else if k = 23 then 9 else if k = 24 then 10 else if k = 21 then 11 else if k = 22 then 12 else 0
theorem kd_le (n : Nat) (T : Nat → Nat) (b : Nat) : tkk n T b < 35 := by
  have wl : ∀ v, wkn v 12 WW < 35 := by
    intro v
    have : ∀ (ws : List (List Nat)) k, 2 ≤ k → wkn v k ws < k + ws.length ∨ wkn v k ws = 1 := by
      intro ws
      induction ws with
      | nil => intro k _; exact Or.inr rfl
      | cons w ws ih =>
        intro k hk
        unfold wkn
        by_cases e : v = wvl 0 w
        · rw [if_pos e]; simp
        · rw [if_neg e]
          have := ih (k + 1) (by omega)
          simp
          omega
    have := this WW 12 (by omega)
    rw [WW_len] at this
    omega
  have := sgk_le (T b)
  unfold tkk
  have := wl (wnm n T b)
  repeat' split
  all_goals omega
theorem fact_x (B : TB (n, T)) (A : AtM n T b h) (hb : b ≤ n) {r : Bool} (hr : h.1 103 19 = if r then 1 else 0) : F_X12_fact h = some (nI (fMk r (tkk n T b) (tkv n T b)), h) := by
  have kw := fun i x hi hx => kd_word B A hb i (x := x) hi hx
  obtain ⟨k2, k0, k3, v2, v3, w1⟩ := kd_num B A hb
  have kl := kd_le n T b
  unfold F_X12_fact F_X12_fact_b200
  by_cases g : h.1 103 7 = 1
  · rw [if_pos g]
    have cw : ∀ i x, i < 23 → wnums.getD i 0 = x → (lg_cmp (h.2 103 8) (lN x) = 0 ↔ tkk n T b = 12 + i) := fun i x hi hx => by
      rw [lgc_0, ← kw i x hi hx]
      exact ⟨fun q => ⟨g, q⟩, fun q => q.2⟩
    cases r with
    | true =>
      rw [if_pos rfl] at hr
      rw [if_neg (by rw [hr]; decide)]
      have c0 : lg_cmp (h.2 103 8) 4419 = 0 ↔ tkk n T b = 12 + 13 := cw 13 4419 (by omega) (by decide)
      have c1 : lg_cmp (h.2 103 8) 247162 = 0 ↔ tkk n T b = 12 + 14 := cw 14 247162 (by omega) (by decide)
      have c2 : lg_cmp (h.2 103 8) 10502425 = 0 ↔ tkk n T b = 12 + 15 := cw 15 10502425 (by omega) (by decide)
      have c3 : lg_cmp (h.2 103 8) 295403683 = 0 ↔ tkk n T b = 12 + 16 := cw 16 295403683 (by omega) (by decide)
      have c4 : lg_cmp (h.2 103 8) 180392 = 0 ↔ tkk n T b = 12 + 17 := cw 17 180392 (by omega) (by decide)
      have c5 : lg_cmp (h.2 103 8) 3436200 = 0 ↔ tkk n T b = 12 + 18 := cw 18 3436200 (by omega) (by decide)
      have c6 : lg_cmp (h.2 103 8) 131638 = 0 ↔ tkk n T b = 12 + 19 := cw 19 131638 (by omega) (by decide)
      have c7 : lg_cmp (h.2 103 8) 555 = 0 ↔ tkk n T b = 12 + 20 := cw 20 555 (by omega) (by decide)
      have c8 : lg_cmp (h.2 103 8) 2232 = 0 ↔ tkk n T b = 12 + 21 := cw 21 2232 (by omega) (by decide)
      have c9 : lg_cmp (h.2 103 8) 400577 = 0 ↔ tkk n T b = 12 + 22 := cw 22 400577 (by omega) (by decide)
      unfold fMk
      rw [if_pos rfl]
      generalize tkk n T b = k at *
      by_cases q0 : k = 25
      · rw [if_pos (c0.mpr (by omega)), q0]; rfl
      · rw [if_neg (fun z => q0 (by have := c0.mp z; omega))]
        by_cases q1 : k = 26
        · rw [if_pos (c1.mpr (by omega)), q1]; rfl
        · rw [if_neg (fun z => q1 (by have := c1.mp z; omega))]
          by_cases q2 : k = 27
          · rw [if_pos (c2.mpr (by omega)), q2]; rfl
          · rw [if_neg (fun z => q2 (by have := c2.mp z; omega))]
            by_cases q3 : k = 28
            · rw [if_pos (c3.mpr (by omega)), q3]; rfl
            · rw [if_neg (fun z => q3 (by have := c3.mp z; omega))]
              by_cases q4 : k = 29
              · rw [if_pos (c4.mpr (by omega)), q4]; rfl
              · rw [if_neg (fun z => q4 (by have := c4.mp z; omega))]
                by_cases q5 : k = 30
                · rw [if_pos (c5.mpr (by omega)), q5]; rfl
                · rw [if_neg (fun z => q5 (by have := c5.mp z; omega))]
                  by_cases q6 : k = 31
                  · rw [if_pos (c6.mpr (by omega)), q6]; rfl
                  · rw [if_neg (fun z => q6 (by have := c6.mp z; omega))]
                    by_cases q7 : k = 32
                    · rw [if_pos (c7.mpr (by omega)), q7]; rfl
                    · rw [if_neg (fun z => q7 (by have := c7.mp z; omega))]
                      by_cases q8 : k = 33
                      · rw [if_pos (c8.mpr (by omega)), q8]; rfl
                      · rw [if_neg (fun z => q8 (by have := c8.mp z; omega))]
                        by_cases q9 : k = 34
                        · rw [if_pos (c9.mpr (by omega)), q9]; rfl
                        · rw [if_neg (fun z => q9 (by have := c9.mp z; omega)), if_neg (by omega)]; rfl
    | false =>
      rw [if_neg (by decide)] at hr
      rw [if_pos hr]
      obtain ⟨w, wp, wl, ww⟩ := w1 g
      have n1 : ¬ lg_cmp (h.2 103 8) 1 < 0 := fun z => by
        have := lgc_n.mp z
        rw [ww] at this
        have := (pk_lLT (b := 1) wl (by omega)).mp this
        omega
      have n8 : 0 < lg_cmp (h.2 103 8) 8 ↔ 8 < w := by
        rw [lgc_p, ww]
        exact pk_lLT (a := 8) (by omega) wl
      rw [if_neg n1]
      unfold fMk
      rw [if_neg (show ¬ false = true by decide)]
      by_cases q : 8 < w
      · rw [if_pos (n8.mpr q)]
        have q3 : tkk n T b ≠ 3 := fun z => by
          have := v3 z
          rw [ww] at this
          have := (pk_lEQ wl (by omega)).mp this.1
          omega
        have c0 : lg_cmp (h.2 103 8) 307058 = 0 ↔ tkk n T b = 12 + 11 := cw 11 307058 (by omega) (by decide)
        have c1 : lg_cmp (h.2 103 8) 1132 = 0 ↔ tkk n T b = 12 + 12 := cw 12 1132 (by omega) (by decide)
        have c2 : lg_cmp (h.2 103 8) 60114 = 0 ↔ tkk n T b = 12 + 9 := cw 9 60114 (by omega) (by decide)
        have c3 : lg_cmp (h.2 103 8) 47 = 0 ↔ tkk n T b = 12 + 10 := cw 10 47 (by omega) (by decide)
        rw [if_neg q3]
        generalize tkk n T b = k at *
        by_cases q0 : k = 23
        · rw [if_pos (c0.mpr (by omega)), if_pos q0]; rfl
        · rw [if_neg (fun z => q0 (by have := c0.mp z; omega)), if_neg q0]
          by_cases q1 : k = 24
          · rw [if_pos (c1.mpr (by omega)), if_pos q1]; rfl
          · rw [if_neg (fun z => q1 (by have := c1.mp z; omega)), if_neg q1]
            by_cases q2 : k = 21
            · rw [if_pos (c2.mpr (by omega)), if_pos q2]; rfl
            · rw [if_neg (fun z => q2 (by have := c2.mp z; omega)), if_neg q2]
              by_cases q4 : k = 22
              · rw [if_pos (c3.mpr (by omega)), if_pos q4]; rfl
              · rw [if_neg (fun z => q4 (by have := c3.mp z; omega)), if_neg q4]; rfl
      · rw [if_neg (fun z => q (n8.mp z))]
        have q3 : tkk n T b = 3 := k3.mp ⟨g, w, by omega, ww⟩
        have vv := v3 q3
        rw [ww] at vv
        have := (pk_lEQ wl (by omega)).mp vv.1
        rw [if_pos q3, ww, lN_i]
        congr 3
        omega
  · rw [if_neg g]
    have q3 : tkk n T b ≠ 3 := fun z => g (k3.mpr z).1
    have qw : ∀ i, i < 23 → tkk n T b ≠ 12 + i := fun i hi z => g ((kw i (wnums.getD i 0) hi rfl).mpr z).1
    have : fMk r (tkk n T b) (tkv n T b) = 0 := by
      unfold fMk
      cases r with
      | true =>
        rw [if_pos rfl, if_neg]
        intro z
        exact qw (tkk n T b - 12) (by omega) (by omega)
      | false =>
        rw [if_neg (by decide), if_neg q3, if_neg (qw 11 (by omega)), if_neg (qw 12 (by omega)), if_neg (qw 9 (by omega)), if_neg (qw 10 (by omega))]
    rw [this]
    rfl
end
