/-! the class's evaluator: ops on a stack -/
def jn (k : Nat) (x y : Int32) : Int32 := if k = 19 then (if x ≠ 0 ∧ y ≠ 0 then 1 else 0) else if k = 20 then (if x ≠ 0 ∨ y ≠ 0 then 1 else 0) else if k = 6 then (if x < y then 1 else 0) else if k = 7 then (if x = y then 1 else 0) else if k = 8 then x + y else if k = 9 then x - y else x * y
def nt (x : Int32) : Int32 := if x = 0 then 1 else 0
def p1 (st : List Int32) (k : Int32 → List Int32 → Option (List Int32)) : Option (List Int32) := match st with
  | x :: s => k x s
  | [] => none
def p2 (st : List Int32) (k : Int32 → Int32 → List Int32 → Option (List Int32)) : Option (List Int32) := match st with
  | y :: x :: s => k y x s
  | _ => none
theorem p1_n {st : List Int32} {k : Int32 → List Int32 → Option (List Int32)} {r : List Int32} (h : p1 st k = some r) : ∃ x s, st = x :: s ∧ k x s = some r := by
  cases st with
  | nil => cases h
  | cons x s => exact ⟨x, s, rfl, h⟩
theorem p2_n {st : List Int32} {k : Int32 → Int32 → List Int32 → Option (List Int32)} {r : List Int32} (h : p2 st k = some r) : ∃ y x s, st = y :: x :: s ∧ k y x s = some r := by
  cases st with
  | nil => cases h
  | cons y s =>
    cases s with
    | nil => cases h
    | cons x s => exact ⟨y, x, s, rfl, h⟩
def rpn (φ : Nat → Nat → Int32) : List Nat → List Int32 → Option (List Int32)
  | [], st => some st
  | o :: os, st => if o % 64 = 2 ∨ o % 64 = 3 ∨ o % 64 = 25 then (if st.length < 32 then rpn φ os (φ (o % 64) (o / 64) :: st) else none) else if o % 64 = 18 then p1 st (fun x s => rpn φ os (nt x :: s)) else p2 st (fun y x s => rpn φ os (jn (o % 64) x y :: s))
theorem rpn_c {φ : Nat → Nat → Int32} {o : Nat} {os : List Nat} {st : List Int32} : rpn φ (o :: os) st = if o % 64 = 2 ∨ o % 64 = 3 ∨ o % 64 = 25 then (if st.length < 32 then rpn φ os (φ (o % 64) (o / 64) :: st) else none) else if o % 64 = 18 then p1 st (fun x s => rpn φ os (nt x :: s)) else p2 st (fun y x s => rpn φ os (jn (o % 64) x y :: s)) := rfl
theorem rpn_app {φ : Nat → Nat → Int32} : ∀ (a b : List Nat) (st st' : List Int32), rpn φ a st = some st' → rpn φ (a ++ b) st = rpn φ b st' := by
  intro a
  induction a with
  | nil => intro b st st' h; cases h; rfl
  | cons o os ih =>
    intro b st st' h
    rw [List.cons_append, rpn_c]
    rw [rpn_c] at h
    by_cases g : o % 64 = 2 ∨ o % 64 = 3 ∨ o % 64 = 25
    · rw [if_pos g] at h ⊢
      by_cases g2 : st.length < 32
      · rw [if_pos g2] at h ⊢
        exact ih b _ _ h
      · rw [if_neg g2] at h
        cases h
    · rw [if_neg g] at h ⊢
      by_cases g2 : o % 64 = 18
      · rw [if_pos g2] at h ⊢
        obtain ⟨x, s, rfl, h⟩ := p1_n h
        exact ih b _ _ h
      · rw [if_neg g2] at h ⊢
        obtain ⟨y, x, s, rfl, h⟩ := p2_n h
        exact ih b _ _ h
theorem joined_x {k : Nat} (hk : k < 64) {x y : Int32} {h : PH} (h2 : k ≠ 2) (h3 : k ≠ 3) (h25 : k ≠ 25) (h18 : k ≠ 18) : F_X2_joined (nI k) x y h = some (jn k x y, h) := by
  unfold F_X2_joined F_X2_joined_b88 F_X2_joined_b98 F_X2_joined_b134 jn
  by_cases g6 : k = 6
  · subst g6
    rw [if_pos (show nI 6 = (6 : Int32) from rfl)]
    by_cases q : y ≤ x
    · rw [if_pos q]
      simp [Int32.not_lt.mpr q]
    · rw [if_neg q]
      simp [Int32.not_le.mp q]
  · rw [if_neg (fun z => g6 ((n_eq_l 6 (by omega) (by omega)).mp z))]
    by_cases g7 : k = 7
    · subst g7
      rw [if_pos (show nI 7 = (7 : Int32) from rfl)]
      by_cases q : x = y
      · simp [q]
      · simp [q]
    · rw [if_neg (fun z => g7 ((n_eq_l 7 (by omega) (by omega)).mp z))]
      by_cases g8 : k = 8
      · subst g8; rfl
      · rw [if_neg (fun z => g8 ((n_eq_l 8 (by omega) (by omega)).mp z))]
        by_cases g9 : k = 9
        · subst g9; rfl
        · rw [if_neg (fun z => g9 ((n_eq_l 9 (by omega) (by omega)).mp z))]
          by_cases g19 : k = 19
          · subst g19
            rw [if_neg (show ¬ nI 19 = (10 : Int32) by decide), if_neg (show ¬ nI 19 = (11 : Int32) by decide), if_neg (show ¬ nI 19 = (12 : Int32) by decide), if_neg (show ¬ nI 19 = (13 : Int32) by decide), if_neg (show ¬ nI 19 = (14 : Int32) by decide), if_neg (show ¬ nI 19 = (15 : Int32) by decide), if_neg (show ¬ nI 19 = (16 : Int32) by decide), if_neg (show ¬ nI 19 = (17 : Int32) by decide), if_neg (show ¬ nI 19 = (18 : Int32) by decide), if_pos (show nI 19 = (19 : Int32) from rfl), if_pos (show (19 : Nat) = 19 from rfl)]
            by_cases q : x = 0
            · rw [if_pos q, if_neg (fun z => z.1 q)]
            · rw [if_neg q]
              by_cases q2 : y = 0
              · rw [if_pos q2, if_neg (fun z => z.2 q2)]
              · rw [if_neg q2, if_pos ⟨q, q2⟩]
          · by_cases g20 : k = 20
            · subst g20
              rw [if_neg (show ¬ nI 20 = (10 : Int32) by decide), if_neg (show ¬ nI 20 = (11 : Int32) by decide), if_neg (show ¬ nI 20 = (12 : Int32) by decide), if_neg (show ¬ nI 20 = (13 : Int32) by decide), if_neg (show ¬ nI 20 = (14 : Int32) by decide), if_neg (show ¬ nI 20 = (15 : Int32) by decide), if_neg (show ¬ nI 20 = (16 : Int32) by decide), if_neg (show ¬ nI 20 = (17 : Int32) by decide), if_neg (show ¬ nI 20 = (18 : Int32) by decide), if_neg (show ¬ nI 20 = (19 : Int32) by decide), if_pos (show nI 20 = (20 : Int32) from rfl), if_neg (show ¬ (20 : Nat) = 19 by decide), if_pos (show (20 : Nat) = 20 from rfl)]
              by_cases q : x = 0
              · rw [if_pos q]
                by_cases q2 : y = 0
                · rw [if_pos q2, if_neg (fun z => z.elim (fun z => z q) (fun z => z q2))]
                · rw [if_neg q2, if_pos (Or.inr q2)]
              · rw [if_neg q, if_pos (Or.inl q)]
            · rw [if_neg (show ¬ nI k = (19 : Int32) from fun z => g19 ((n_eq_l 19 (by omega) (by omega)).mp z)), if_neg (show ¬ nI k = (20 : Int32) from fun z => g20 ((n_eq_l 20 (by omega) (by omega)).mp z)), if_neg g19, if_neg g20, if_neg g6, if_neg g7, if_neg g8, if_neg g9]
              simp only [ite_self]
/-- what a leaf of the class answers: a NUMBER, a bit of the facts, a fact of a RULE -/
def lfC (bits : Int32) (fa : Nat → Int32) (k a : Nat) : Int32 := if k = 2 then nI a else if k = 3 then (bits >>> (nI a &&& 31)) &&& 1 else if a < 10 then fa a else 0
theorem leaf_x {o k a : Nat} {bits : Int32} {h : PH} (hk : k < 64) (ha : a < 2 ^ 31) : F_X2_leaf o (nI k) (nI a) bits h = some (lfC bits (h.1 (o + 1)) k a, h) := by
  unfold F_X2_leaf F_X2_leaf_b40 lfC
  by_cases g2 : k = 2
  · rw [if_pos ((n_eq_l 2 (by omega) (by omega)).mpr g2), if_pos g2]
  · rw [if_neg (fun z => g2 ((n_eq_l 2 (by omega) (by omega)).mp z)), if_neg g2]
    by_cases g3 : k = 3
    · rw [if_pos ((n_eq_l 3 (by omega) (by omega)).mpr g3), if_pos g3]
    · rw [if_neg (fun z => g3 ((n_eq_l 3 (by omega) (by omega)).mp z)), if_neg g3, if_neg (nI_pos ha)]
      by_cases g : a < 10
      · rw [if_neg (fun z => by have := (l_le_n 10 ha (by omega)).mp z; omega), if_pos (nI_in0 g (by omega)), if_pos g, nI_clamp ha]
      · rw [if_pos ((l_le_n 10 ha (by omega)).mpr (by omega)), if_neg g]
/-- the stack in its cell: the list, its last one lowest -/
def stk (f : Nat → Int32) (st : List Int32) : Prop := ∀ i, i < st.length → f i = st.reverse.getD i 0
theorem stk_push {f : Nat → Int32} {st : List Int32} {x : Int32} (h : stk f st) : stk (upd f st.length x) (x :: st) := by
  intro i hi
  rw [List.reverse_cons]
  by_cases e : i = st.length
  · subst e
    simp [upd, List.getD_eq_getElem?_getD]
  · have h1 : i < st.length := by simp at hi; omega
    have h2 := h i h1
    simp [upd, e, List.getD_eq_getElem?_getD]
    rw [List.getElem?_append_left (by simp; exact h1), h2, List.getD_eq_getElem?_getD]
theorem stk_top {f : Nat → Int32} {st : List Int32} {x : Int32} (h : stk f (x :: st)) : f st.length = x ∧ stk f st := by
  constructor
  · have := h st.length (by simp)
    rw [this, List.reverse_cons]
    simp [List.getD_eq_getElem?_getD]
  · intro i hi
    have := h i (by simp; omega)
    rw [this, List.reverse_cons, List.getD_eq_getElem?_getD, List.getD_eq_getElem?_getD, List.getElem?_append_left (by simp; exact hi)]
/-- the ops of a line stand from b to e -/
def opsAt (f : Nat → Int32) (b : Nat) (E : List Nat) : Prop := ∀ t, t < E.length → f (b + t) = nI (E.getD t 0)
section
variable {N o f b e n op : Nat} {bits : Int32} {h : PH}
theorem op_s6 (hop : op < 2147483648) : nI op >>> ((6 : Int32) &&& 31) = nI (op / 64) := pk_shrN hop _ 6 (by decide)
theorem op_m6 (hop : op < 2147483648) : nI op &&& 63 = nI (op % 64) := pk_andN (by omega) 6 (by decide)
theorem val_end (he : e ≤ 1000) (hb : e ≤ b) (hb2 : b ≤ 1000) (hn : n ≤ 32) : F_X2_value_b18 N o (f + 1) bits (nI n) (nI e) (nI b) h = some (if n = 1 then h.1 (o + 5) 0 else 0, h) := by
  unfold F_X2_value_b18 F_X2_value_b181
  rw [if_pos (nI_le hb (by omega))]
  by_cases g : n = 1
  · rw [if_pos ((n_eq_l 1 (by omega) (by omega)).mpr g), if_pos (by decide), if_pos g]
    rfl
  · rw [if_neg (fun z => g ((n_eq_l 1 (by omega) (by omega)).mp z)), if_neg g]
theorem val_leafC {k a : Nat} (hk : k < 64) (ha : a < 2147483648) (hn : n < 32) : F_X2_value_b68 N o (F_X2_value_b18 N o f) bits (nI n) (nI e) (nI b) (nI k) (nI a) h = F_X2_value_b18 N o f bits (nI (n + 1)) (nI e) (nI (b + 1)) (hs h (o + 5) n (lfC bits (h.1 (o + 1)) k a)) := by
  unfold F_X2_value_b68 F_X2_value_b175
  rw [if_pos ((n_lt_l 32 (by omega) (by omega)).mpr hn), leaf_x hk (by omega), bI_s, if_pos (nI_in0 hn (by omega)), nI_clamp (by omega)]
  simp only [hb_e, ib_e]
  rw [nI_1, nI_1]
theorem val_body {k a : Nat} (he : e ≤ 1000) (hbe : b < e) (hop : op < 2147483648) (h0 : h.1 (o + 2) b = nI op) (hk : op % 64 = k) (ha : op / 64 = a) : F_X2_value_b18 N o (f + 1) bits (nI n) (nI e) (nI b) h = if nI k = 2 then F_X2_value_b68 N o (F_X2_value_b18 N o f) bits (nI n) (nI e) (nI b) (nI k) (nI a) h else if nI k = 3 then F_X2_value_b68 N o (F_X2_value_b18 N o f) bits (nI n) (nI e) (nI b) (nI k) (nI a) h else if nI k = 25 then F_X2_value_b68 N o (F_X2_value_b18 N o f) bits (nI n) (nI e) (nI b) (nI k) (nI a) h else if nI k = 18 then (if 1 ≤ nI n then (if inb (nI n - 1) 32 = true then (if h.1 (o + 5) (nI n - 1).toNatClampNeg = 0 then F_X2_value_b134 N o (F_X2_value_b18 N o f) bits (nI n) (nI e) (nI b) 1 (nI n - 1) h else F_X2_value_b134 N o (F_X2_value_b18 N o f) bits (nI n) (nI e) (nI b) 0 (nI n - 1) h) else none) else some (0, h)) else if 2 ≤ nI n then ib (nI n + -1) (fun v10 => if inb (v10 - 1) 32 = true then (if inb v10 32 = true then bI (F_X2_joined (nI k) (h.1 (o + 5) (v10 - 1).toNatClampNeg) (h.1 (o + 5) v10.toNatClampNeg) h) (fun r13 h14 => hb (hs h14 (o + 5) (v10 - 1).toNatClampNeg r13) (fun h15 => F_X2_value_b175 N o (F_X2_value_b18 N o f) bits v10 (nI e) (nI b) h15)) else none) else none) else some (0, h) := by
  rw [F_X2_value_b18, if_neg (nI_ge hbe (by omega)), if_pos (nI_in0 (by omega) (by omega)), nI_clamp (by omega), h0, op_m6 hop, op_s6 hop, hk, ha, ib_e, ib_e]
theorem val_leaf {k a : Nat} (he : e ≤ 1000) (hb : b < e) (hop : op < 2147483648) (h0 : h.1 (o + 2) b = nI op) (hk : op % 64 = k) (ha : op / 64 = a) (g : k = 2 ∨ k = 3 ∨ k = 25) (hn : n < 32) : F_X2_value_b18 N o (f + 1) bits (nI n) (nI e) (nI b) h = F_X2_value_b18 N o f bits (nI (n + 1)) (nI e) (nI (b + 1)) (hs h (o + 5) n (lfC bits (h.1 (o + 1)) k a)) := by
  rw [val_body he hb hop h0 hk ha]
  have key := val_leafC (N := N) (o := o) (f := f) (b := b) (e := e) (n := n) (bits := bits) (h := h) (k := k) (a := a) (by omega) (by omega) hn
  clear hk ha hop h0
  rcases g with rfl | rfl | rfl
  · rw [if_pos (show nI 2 = (2 : Int32) from rfl), key]
  · rw [if_neg (show ¬ nI 3 = (2 : Int32) by decide), if_pos (show nI 3 = (3 : Int32) from rfl), key]
  · rw [if_neg (show ¬ nI 25 = (2 : Int32) by decide), if_neg (show ¬ nI 25 = (3 : Int32) by decide), if_pos (show nI 25 = (25 : Int32) from rfl), key]
theorem val_not {a : Nat} (he : e ≤ 1000) (hb : b < e) (hop : op < 2147483648) (h0 : h.1 (o + 2) b = nI op) (hk : op % 64 = 18) (ha : op / 64 = a) (hn : n < 32) : F_X2_value_b18 N o (f + 1) bits (nI (n + 1)) (nI e) (nI b) h = F_X2_value_b18 N o f bits (nI (n + 1)) (nI e) (nI (b + 1)) (hs h (o + 5) n (nt (h.1 (o + 5) n))) := by
  rw [val_body he hb hop h0 hk ha]
  clear hk ha hop h0
  unfold F_X2_value_b134 F_X2_value_b175
  rw [if_neg (show ¬ nI 18 = (2 : Int32) by decide), if_neg (show ¬ nI 18 = (3 : Int32) by decide), if_neg (show ¬ nI 18 = (25 : Int32) by decide), if_pos (show nI 18 = (18 : Int32) from rfl), if_pos ((l_le_n 1 (by omega) (by omega)).mpr (by omega)), nI_pred, if_pos (nI_in0 hn (by omega)), nI_clamp (by omega)]
  simp only [hb_e, ib_e]
  rw [nI_1, if_pos (nI_in0 hn (by omega)), if_pos (nI_in0 hn (by omega))]
  unfold nt
  by_cases q : h.1 (o + 5) n = 0
  · rw [if_pos q, if_pos q]
  · rw [if_neg q, if_neg q]
theorem val_join {k a : Nat} (he : e ≤ 1000) (hb : b < e) (hop : op < 2147483648) (h0 : h.1 (o + 2) b = nI op) (hk : op % 64 = k) (ha : op / 64 = a) (hk6 : k < 64) (g2 : k ≠ 2) (g3 : k ≠ 3) (g25 : k ≠ 25) (g18 : k ≠ 18) (hn : n + 1 < 32) : F_X2_value_b18 N o (f + 1) bits (nI (n + 2)) (nI e) (nI b) h = F_X2_value_b18 N o f bits (nI (n + 1)) (nI e) (nI (b + 1)) (hs h (o + 5) n (jn k (h.1 (o + 5) n) (h.1 (o + 5) (n + 1)))) := by
  rw [val_body he hb hop h0 hk ha]
  clear hk ha hop h0
  unfold F_X2_value_b175
  have e5 : nI (n + 2) + (-1) = nI (n + 1) := pk_m1 (n + 1)
  rw [if_neg (fun z => g2 ((n_eq_l 2 (by omega) (by omega)).mp z)), if_neg (fun z => g3 ((n_eq_l 3 (by omega) (by omega)).mp z)), if_neg (fun z => g25 ((n_eq_l 25 (by omega) (by omega)).mp z)), if_neg (fun z => g18 ((n_eq_l 18 (by omega) (by omega)).mp z)), if_pos ((l_le_n 2 (by omega) (by omega)).mpr (by omega)), e5, ib_e, nI_pred, if_pos (nI_in0 (by omega) (by omega)), if_pos (nI_in0 hn (by omega)), nI_clamp (by omega), nI_clamp (by omega), joined_x hk6 g2 g3 g25 g18, bI_s, hb_e, ib_e, nI_1]
end
theorem hs_own {h : PH} {k j : Nat} {x : Int32} : (hs h k j x).1 k = upd (h.1 k) j x := by
  unfold hs
  simp
theorem value_l {N o e : Nat} {bits : Int32} (he : e ≤ 1000) : ∀ (E : List Nat) (fu b : Nat) (st st' : List Int32) (h : PH), E.length < fu → b + E.length = e → st.length ≤ 32 → (∀ x, x ∈ E → x < 2147483648) → opsAt (h.1 (o + 2)) b E → stk (h.1 (o + 5)) st → rpn (lfC bits (h.1 (o + 1))) E st = some st' → okI (F_X2_value_b18 N o fu bits (nI st.length) (nI e) (nI b) h) (fun v h' => v = (if st'.length = 1 then st'.headD 0 else 0) ∧ fr [o + 5] h h') := by
  intro E
  induction E with
  | nil =>
    intro fu b st st' h hf hb hs0 hx hE hS hr
    obtain ⟨f, rfl⟩ : ∃ f, fu = f + 1 := ⟨fu - 1, by simp at hf; omega⟩
    cases hr
    simp at hb
    rw [val_end he (by omega) (by omega) hs0]
    refine okI_s ⟨?_, fr_0⟩
    by_cases g : st.length = 1
    · rw [if_pos g, if_pos g]
      cases st with
      | nil => simp at g
      | cons x s =>
        cases s with
        | nil => exact (stk_top hS).1
        | cons y s => simp at g
    · rw [if_neg g, if_neg g]
  | cons op E ih =>
    intro fu b st st' h hf hb hs0 hx hE hS hr
    obtain ⟨f, rfl⟩ : ∃ f, fu = f + 1 := ⟨fu - 1, by simp at hf; omega⟩
    rw [List.length_cons] at hf hb
    have hop : op < 2147483648 := hx op List.mem_cons_self
    have hx' : ∀ x, x ∈ E → x < 2147483648 := fun x hx' => hx x (List.mem_cons_of_mem _ hx')
    have hE0 : h.1 (o + 2) b = nI op := by simpa using hE 0 (by simp)
    have hE' : ∀ h' : PH, h'.1 (o + 2) = h.1 (o + 2) → opsAt (h'.1 (o + 2)) (b + 1) E := fun h' q t ht => by
      rw [q]
      have := hE (t + 1) (by simp; omega)
      rw [show b + 1 + t = b + (t + 1) by omega, this]
      simp
    have go : ∀ (st2 : List Int32) (k : Nat) (x : Int32), st2.length = k + 1 → st2.length ≤ 32 → stk (upd (h.1 (o + 5)) k x) st2 → rpn (lfC bits (h.1 (o + 1))) E st2 = some st' → okI (F_X2_value_b18 N o f bits (nI (k + 1)) (nI e) (nI (b + 1)) (hs h (o + 5) k x)) (fun v h' => v = (if st'.length = 1 then st'.headD 0 else 0) ∧ fr [o + 5] h h') := by
      intro st2 k x hk hk2 hstk hrp
      have hk1 : ∀ c, c ≠ o + 5 → (hs h (o + 5) k x).1 c = h.1 c := fun c q => hs_o q
      have := ih f (b + 1) st2 st' (hs h (o + 5) k x) (by omega) (by omega) hk2 hx' (hE' _ (hk1 _ (by omega))) (by rw [hs_own]; exact hstk) (by rw [hk1 (o + 1) (by omega)]; exact hrp)
      rw [hk] at this
      exact okI_m this (fun v h' q => ⟨q.1, fr_t (fr_s fr_0 (by simp)) q.2⟩)
    rw [rpn_c] at hr
    by_cases g : op % 64 = 2 ∨ op % 64 = 3 ∨ op % 64 = 25
    · rw [if_pos g] at hr
      by_cases g2 : st.length < 32
      · rw [if_pos g2] at hr
        rw [val_leaf he (by omega) hop hE0 rfl rfl g g2]
        exact go _ _ _ (List.length_cons) (by rw [List.length_cons]; omega) (stk_push hS) hr
      · rw [if_neg g2] at hr
        cases hr
    · rw [if_neg g] at hr
      by_cases g2 : op % 64 = 18
      · rw [if_pos g2] at hr
        obtain ⟨x, s, rfl, hr⟩ := p1_n hr
        rw [List.length_cons] at hs0
        have top := stk_top hS
        rw [List.length_cons, val_not he (by omega) hop hE0 g2 rfl (by omega), top.1]
        exact go (nt x :: s) _ _ (List.length_cons) (by rw [List.length_cons]; omega) (stk_push top.2) hr
      · rw [if_neg g2] at hr
        obtain ⟨y, x, s, rfl, hr⟩ := p2_n hr
        rw [List.length_cons, List.length_cons] at hs0
        have top := stk_top hS
        have top2 := stk_top top.2
        have t1 : h.1 (o + 5) (s.length + 1) = y := top.1
        rw [List.length_cons, List.length_cons, val_join he (by omega) hop hE0 rfl rfl (Nat.mod_lt _ (by omega)) (fun z => g (Or.inl z)) (fun z => g (Or.inr (Or.inl z))) (fun z => g (Or.inr (Or.inr z))) g2 (by omega), t1, top2.1]
        exact go (jn (op % 64) x y :: s) _ _ (List.length_cons) (by rw [List.length_cons]; omega) (stk_push top2.2) hr
/-- a line of a code object: its ops -/
def lnC (o l : Nat) (E : List Nat) (h : PH) : Prop := ∃ b, b + E.length ≤ 1000 ∧ h.1 (o + 3) l = nI b ∧ h.1 (o + 4) l = nI (b + E.length) ∧ opsAt (h.1 (o + 2)) b E
theorem value_x {N o l : Nat} {bits : Int32} (hN : 2000 ≤ N) (hl : l < 25) {E : List Nat} {st' : List Int32} {h : PH} (L : lnC o l E h) (hx : ∀ x, x ∈ E → x < 2147483648) (hr : rpn (lfC bits (h.1 (o + 1))) E [] = some st') : okI (F_X2_value N o (nI l) bits h) (fun v h' => v = (if st'.length = 1 then st'.headD 0 else 0) ∧ fr [o + 5] h h') := by
  obtain ⟨b, b1, b2, b3, b4⟩ := L
  unfold F_X2_value
  rw [if_pos (nI_in0 hl (by omega)), nI_clamp (by omega), b2, b3]
  simp only [ib_e]
  exact value_l b1 E N b [] st' h (by omega) rfl (by simp) hx b4 (fun i hi => by simp at hi) hr
