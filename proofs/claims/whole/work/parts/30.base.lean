/-! ints by their values -/
def iI (z : Int) : Int32 := Int32.ofInt z
theorem iI_t {z : Int} (h1 : -2147483648 ≤ z) (h2 : z < 2147483648) : (iI z).toInt = z := Int32.toInt_ofInt_of_le (by omega) (by omega)
theorem iI_of (x : Int32) : ∃ z : Int, -2147483648 ≤ z ∧ z < 2147483648 ∧ x = iI z := ⟨x.toInt, by have := x.le_toInt; omega, by have := x.toInt_lt; omega, (Int32.ofInt_toInt x).symm⟩
theorem iI_add (a b : Int) : iI a + iI b = iI (a + b) := (Int32.ofInt_add a b).symm
theorem iI_sub (a b : Int) : iI a - iI b = iI (a - b) := (Int32.ofInt_sub a b).symm
theorem iI_mul (a b : Int) : iI a * iI b = iI (a * b) := (Int32.ofInt_mul a b).symm
theorem iI_neg (a : Int) : -iI a = iI (-a) := (Int32.ofInt_neg a).symm
theorem iI_nat (n : Nat) : nI n = iI n := (Int32.ofInt_eq_ofNat (n := n)).symm
theorem iI_lit (n : Nat) : (no_index (OfNat.ofNat n) : Int32) = iI n := (Int32.ofInt_eq_ofNat (n := n)).symm
theorem iI_m1 : (-1 : Int32) = iI (-1) := by decide
theorem iI_lt {a b : Int} (h1 : -2147483648 ≤ a) (h2 : a < 2147483648) (h3 : -2147483648 ≤ b) (h4 : b < 2147483648) : iI a < iI b ↔ a < b := by rw [Int32.lt_iff_toInt_lt, iI_t h1 h2, iI_t h3 h4]
theorem iI_le {a b : Int} (h1 : -2147483648 ≤ a) (h2 : a < 2147483648) (h3 : -2147483648 ≤ b) (h4 : b < 2147483648) : iI a ≤ iI b ↔ a ≤ b := by rw [Int32.le_iff_toInt_le, iI_t h1 h2, iI_t h3 h4]
theorem iI_eq {a b : Int} (h1 : -2147483648 ≤ a) (h2 : a < 2147483648) (h3 : -2147483648 ≤ b) (h4 : b < 2147483648) : iI a = iI b ↔ a = b := by rw [← Int32.toInt_inj, iI_t h1 h2, iI_t h3 h4]
theorem iI_lt0 {a : Int} (h1 : -2147483648 ≤ a) (h2 : a < 2147483648) : iI a < 0 ↔ a < 0 := iI_lt (b := 0) h1 h2 (by omega) (by omega)
theorem iI_0lt {a : Int} (h1 : -2147483648 ≤ a) (h2 : a < 2147483648) : 0 < iI a ↔ 0 < a := iI_lt (a := 0) (by omega) (by omega) h1 h2
theorem iI_0le {a : Int} (h1 : -2147483648 ≤ a) (h2 : a < 2147483648) : 0 ≤ iI a ↔ 0 ≤ a := iI_le (a := 0) (by omega) (by omega) h1 h2
theorem iI_eq0 {a : Int} (h1 : -2147483648 ≤ a) (h2 : a < 2147483648) : iI a = 0 ↔ a = 0 := iI_eq (b := 0) h1 h2 (by omega) (by omega)
theorem iI_cl {a : Int} (h1 : -2147483648 ≤ a) (h2 : a < 2147483648) : (iI a).toNatClampNeg = a.toNat := by rw [← Int32.toNat_toInt, iI_t h1 h2]
theorem iI_in {a : Int} {n : Nat} (h1 : -2147483648 ≤ a) (h2 : a < 2147483648) : inb (iI a) n = true ↔ 0 ≤ a ∧ a < n := by
  unfold inb
  rw [decide_eq_true_iff, iI_cl h1 h2, show (0 : Int32) = iI 0 from rfl, iI_lt h1 h2 (by omega) (by omega)]
  omega
theorem iI_div {a b : Int} (h1 : 0 ≤ a) (h2 : a < 2147483648) (h3 : 0 < b) (h4 : b < 2147483648) : iI a / iI b = iI (a / b) := by
  obtain ⟨m, rfl⟩ := Int.eq_ofNat_of_zero_le h1
  obtain ⟨k, rfl⟩ := Int.eq_ofNat_of_zero_le (Int.le_of_lt h3)
  have := pk_div (a := m) (d := k) (by omega) (by omega) (by omega)
  rw [iI_nat, iI_nat, iI_nat] at this
  rw [this]
  rfl
theorem nI_in0 {k n : Nat} (h : k < n) (hn : n < 2 ^ 31) : inb (nI k) n = true := by
  unfold inb
  rw [decide_eq_true_iff]
  exact nI_in h hn
theorem iI_ext {x : Int32} {z : Int} (h : x = iI z) : x.toInt = z.bmod Int32.size := by rw [h]; exact Int32.toInt_ofInt
/-! outcomes -/
def okI (x : Option (Int32 × PH)) (P : Int32 → PH → Prop) : Prop := ∃ r h, x = some (r, h) ∧ P r h
def okL (x : Option (Int64 × PH)) (P : Int64 → PH → Prop) : Prop := ∃ r h, x = some (r, h) ∧ P r h
def okV (x : Option PH) (P : PH → Prop) : Prop := ∃ h, x = some h ∧ P h
theorem okI_s {r : Int32} {h : PH} {P : Int32 → PH → Prop} (k : P r h) : okI (some (r, h)) P := ⟨r, h, rfl, k⟩
theorem okL_s {r : Int64} {h : PH} {P : Int64 → PH → Prop} (k : P r h) : okL (some (r, h)) P := ⟨r, h, rfl, k⟩
theorem okV_s {h : PH} {P : PH → Prop} (k : P h) : okV (some h) P := ⟨h, rfl, k⟩
theorem okI_m {x : Option (Int32 × PH)} {P Q : Int32 → PH → Prop} (k : okI x P) (m : ∀ r h, P r h → Q r h) : okI x Q := by
  obtain ⟨r, h, e, p⟩ := k
  exact ⟨r, h, e, m r h p⟩
theorem okV_m {x : Option PH} {P Q : PH → Prop} (k : okV x P) (m : ∀ h, P h → Q h) : okV x Q := by
  obtain ⟨h, e, p⟩ := k
  exact ⟨h, e, m h p⟩
theorem okL_m {x : Option (Int64 × PH)} {P Q : Int64 → PH → Prop} (k : okL x P) (m : ∀ r h, P r h → Q r h) : okL x Q := by
  obtain ⟨r, h, e, p⟩ := k
  exact ⟨r, h, e, m r h p⟩
theorem okI_bI {x : Option (Int32 × PH)} {f : Int32 → PH → Option (Int32 × PH)} {P : Int32 → PH → Prop} (k : okI x (fun r h => okI (f r h) P)) : okI (bI x f) P := by
  obtain ⟨r, h, rfl, p⟩ := k
  exact p
theorem okV_bI {x : Option (Int32 × PH)} {f : Int32 → PH → Option PH} {P : PH → Prop} (k : okI x (fun r h => okV (f r h) P)) : okV (bI x f) P := by
  obtain ⟨r, h, rfl, p⟩ := k
  exact p
theorem okL_bI {x : Option (Int32 × PH)} {f : Int32 → PH → Option (Int64 × PH)} {P : Int64 → PH → Prop} (k : okI x (fun r h => okL (f r h) P)) : okL (bI x f) P := by
  obtain ⟨r, h, rfl, p⟩ := k
  exact p
theorem okI_bV {x : Option PH} {f : PH → Option (Int32 × PH)} {P : Int32 → PH → Prop} (k : okV x (fun h => okI (f h) P)) : okI (bV x f) P := by
  obtain ⟨h, rfl, p⟩ := k
  exact p
theorem okV_bV {x : Option PH} {f : PH → Option PH} {P : PH → Prop} (k : okV x (fun h => okV (f h) P)) : okV (bV x f) P := by
  obtain ⟨h, rfl, p⟩ := k
  exact p
theorem okL_bL {x : Option (Int64 × PH)} {f : Int64 → PH → Option (Int64 × PH)} {P : Int64 → PH → Prop} (k : okL x (fun r h => okL (f r h) P)) : okL (bL x f) P := by
  obtain ⟨r, h, rfl, p⟩ := k
  exact p
theorem bI_s {ρ : Type} {r : Int32} {h : PH} {f : Int32 → PH → Option ρ} : bI (some (r, h)) f = f r h := rfl
theorem bL_s {ρ : Type} {r : Int64} {h : PH} {f : Int64 → PH → Option ρ} : bL (some (r, h)) f = f r h := rfl
theorem bV_s {ρ : Type} {h : PH} {f : PH → Option ρ} : bV (some h) f = f h := rfl
theorem ib_e {ρ : Type} {x : Int32} {f : Int32 → ρ} : ib x f = f x := rfl
theorem lb_e {ρ : Type} {x : Int64} {f : Int64 → ρ} : lb x f = f x := rfl
theorem hb_e {ρ : Type} {x : PH} {f : PH → ρ} : hb x f = f x := rfl
/-! cells read behind a change -/
theorem hs_1 {h : PH} {k j : Nat} {x : Int32} {a b : Nat} : (hs h k j x).1 a b = if a = k then (if b = j then x else h.1 a b) else h.1 a b := by
  unfold hs upd
  dsimp only
  by_cases e : a = k
  · rw [if_pos e, if_pos e]
  · rw [if_neg e, if_neg e]
theorem hs_o {h : PH} {k j : Nat} {x : Int32} {a : Nat} (e : a ≠ k) : (hs h k j x).1 a = h.1 a := by
  unfold hs
  dsimp only
  rw [if_neg e]
theorem hs_id {h : PH} {k j : Nat} : hs h k j (h.1 k j) = h := by
  apply Prod.ext
  · funext a b
    rw [hs_1]
    by_cases e : a = k
    · subst e
      by_cases e2 : b = j
      · subst e2; simp
      · simp [e2]
    · simp [e]
  · rfl
theorem hs_2 {h : PH} {k j : Nat} {x : Int32} : (hs h k j x).2 = h.2 := rfl
theorem hsA_1 {h : PH} {k : Nat} {f : Nat → Int32} {a : Nat} : (hsA h k f).1 a = if a = k then f else h.1 a := rfl
theorem hsA_2 {h : PH} {k : Nat} {f : Nat → Int32} : (hsA h k f).2 = h.2 := rfl
theorem hf_1 {h : PH} {k n : Nat} {v : Int32} {a b : Nat} : (hfill h k n v).1 a b = if a = k then (if b < n then v else h.1 a b) else h.1 a b := by
  unfold hfill hsA
  dsimp only
  by_cases e : a = k
  · subst e
    rw [if_pos rfl, if_pos rfl]
  · rw [if_neg e, if_neg e]
theorem hf_o {h : PH} {k n : Nat} {v : Int32} {a : Nat} (e : a ≠ k) : (hfill h k n v).1 a = h.1 a := by
  unfold hfill hsA
  dsimp only
  rw [if_neg e]
theorem hf_2 {h : PH} {k n : Nat} {v : Int32} : (hfill h k n v).2 = h.2 := rfl
theorem hsL_1 {h : PH} {k j : Nat} {x : Int64} : (hsL h k j x).1 = h.1 := rfl
theorem hsL_2 {h : PH} {k j : Nat} {x : Int64} {a b : Nat} : (hsL h k j x).2 a b = if a = k then (if b = j then x else h.2 a b) else h.2 a b := by
  unfold hsL vp_updL
  dsimp only
  by_cases e : a = k
  · rw [if_pos e, if_pos e]
  · rw [if_neg e, if_neg e]
/-- nothing outside the cells of S has changed -/
def fr (S : List Nat) (h h' : PH) : Prop := ∀ k, k ∉ S → h'.1 k = h.1 k
theorem fr_0 {S : List Nat} {h : PH} : fr S h h := fun _ _ => rfl
theorem fr_t {S : List Nat} {h h' h2 : PH} (a : fr S h h') (b : fr S h' h2) : fr S h h2 := fun k hk => (b k hk).trans (a k hk)
theorem fr_w {S T : List Nat} {h h' : PH} (a : fr S h h') (b : ∀ k, k ∈ S → k ∈ T) : fr T h h' := fun k hk => a k (fun q => hk (b k q))
theorem ne_of_mem {S : List Nat} {c k : Nat} (hc : c ∉ S) (b : k ∈ S) : c ≠ k := fun e => hc (by rw [e]; exact b)
theorem fr_s {S : List Nat} {h h' : PH} {k j : Nat} {x : Int32} (a : fr S h h') (b : k ∈ S) : fr S h (hs h' k j x) := fun c hc => (hs_o (ne_of_mem hc b)).trans (a c hc)
theorem fr_f {S : List Nat} {h h' : PH} {k n : Nat} {x : Int32} (a : fr S h h') (b : k ∈ S) : fr S h (hfill h' k n x) := fun c hc => (hf_o (ne_of_mem hc b)).trans (a c hc)
theorem fr_A {S : List Nat} {h h' : PH} {k : Nat} {f : Nat → Int32} (a : fr S h h') (b : k ∈ S) : fr S h (hsA h' k f) := fun c hc => by
  rw [hsA_1, if_neg (ne_of_mem hc b)]
  exact a c hc
theorem fr_L {S : List Nat} {h h' : PH} {k j : Nat} {x : Int64} (a : fr S h h') : fr S h (hsL h' k j x) := a
/-- nothing outside the cells of S and the single places of K has changed -/
def fq (S : List Nat) (K : List (Nat × Nat)) (h h' : PH) : Prop := ∀ k j, k ∉ S → (k, j) ∉ K → h'.1 k j = h.1 k j
theorem fq_0 {S : List Nat} {K : List (Nat × Nat)} {h : PH} : fq S K h h := fun _ _ _ _ => rfl
theorem fq_t {S : List Nat} {K : List (Nat × Nat)} {h h' h2 : PH} (a : fq S K h h') (b : fq S K h' h2) : fq S K h h2 := fun k j h1 h3 => (b k j h1 h3).trans (a k j h1 h3)
theorem fq_w {S T : List Nat} {K M : List (Nat × Nat)} {h h' : PH} (a : fq S K h h') (b : ∀ k, k ∈ S → k ∈ T) (c : ∀ q, q ∈ K → q ∈ M ∨ q.1 ∈ T) : fq T M h h' := fun k j h1 h2 => a k j (fun q => h1 (b k q)) (fun q => by
  rcases c _ q with d | d
  · exact h2 d
  · exact h1 d)
theorem fq_fr {S : List Nat} {K : List (Nat × Nat)} {h h' : PH} (a : fr S h h') : fq S K h h' := fun k j h1 _ => congrFun (a k h1) j
theorem fq_s {S : List Nat} {K : List (Nat × Nat)} {h h' : PH} {k j : Nat} {x : Int32} (a : fq S K h h') (b : k ∈ S ∨ (k, j) ∈ K) : fq S K h (hs h' k j x) := fun c d h1 h2 => by
  rw [hs_1]
  by_cases e : c = k
  · subst e
    rw [if_pos rfl]
    by_cases e2 : d = j
    · subst e2
      rcases b with b | b
      · exact absurd b h1
      · exact absurd b h2
    · rw [if_neg e2]
      exact a c d h1 h2
  · rw [if_neg e]
    exact a c d h1 h2
theorem fq_f {S : List Nat} {K : List (Nat × Nat)} {h h' : PH} {k n : Nat} {x : Int32} (a : fq S K h h') (b : k ∈ S) : fq S K h (hfill h' k n x) := fun c d h1 h2 => by
  rw [hf_1, if_neg (ne_of_mem h1 b)]
  exact a c d h1 h2
theorem fq_A {S : List Nat} {K : List (Nat × Nat)} {h h' : PH} {k : Nat} {f : Nat → Int32} (a : fq S K h h') (b : k ∈ S) : fq S K h (hsA h' k f) := fun c d h1 h2 => by
  rw [hsA_1, if_neg (ne_of_mem h1 b)]
  exact a c d h1 h2
theorem fq_L {S : List Nat} {K : List (Nat × Nat)} {h h' : PH} {k j : Nat} {x : Int64} (a : fq S K h h') : fq S K h (hsL h' k j x) := a
theorem nI_m1 {n : Nat} (h : 1 ≤ n) : nI n - 1 = nI (n - 1) := pk_sub (b := 1) h
theorem nI_m2 {n : Nat} (h : 2 ≤ n) : nI n - 2 = nI (n - 2) := pk_sub (b := 2) h
/-! a number against a literal -/
theorem l_le_n (k : Nat) {x : Int32} {j : Nat} (hj : j < 2 ^ 31) (hk : k < 2 ^ 31) (hx : x = nI k := by rfl) : x ≤ nI j ↔ k ≤ j := by
  rw [hx]; exact nI_leI hk hj
theorem l_lt_n (k : Nat) {x : Int32} {j : Nat} (hj : j < 2 ^ 31) (hk : k < 2 ^ 31) (hx : x = nI k := by rfl) : x < nI j ↔ k < j := by
  rw [hx]; exact nI_ltI hk hj
theorem n_le_l (k : Nat) {x : Int32} {j : Nat} (hj : j < 2 ^ 31) (hk : k < 2 ^ 31) (hx : x = nI k := by rfl) : nI j ≤ x ↔ j ≤ k := by
  rw [hx]; exact nI_leI hj hk
theorem n_lt_l (k : Nat) {x : Int32} {j : Nat} (hj : j < 2 ^ 31) (hk : k < 2 ^ 31) (hx : x = nI k := by rfl) : nI j < x ↔ j < k := by
  rw [hx]; exact nI_ltI hj hk
theorem n_eq_l (k : Nat) {x : Int32} {j : Nat} (hj : j < 2 ^ 31) (hk : k < 2 ^ 31) (hx : x = nI k := by rfl) : nI j = x ↔ j = k := by
  rw [hx]; exact nI_eq hj hk
theorem nI_inI {k n : Nat} (hk : k < 2 ^ 31) : inb (nI k) n = true ↔ k < n := by
  unfold inb
  rw [decide_eq_true_iff, nI_clamp hk]
  constructor
  · intro q
    omega
  · intro q z
    rcases z with z | z
    · exact nI_pos hk z
    · omega
theorem n_eq_m1 {j : Nat} (hj : j < 2 ^ 31) : ¬ nI j = -1 := fun e => by
  have := nI_pos hj
  rw [e] at this
  exact this (by decide)
theorem n_le_m1 {j : Nat} (hj : j < 2 ^ 31) : ¬ nI j < -1 := fun e => nI_pos hj (Int32.lt_trans e (by decide))
/-- FLOORS -/
def HC (F : Nat) (h : PH) : Prop := h.1 14 1 = nI F
def HM (F : Nat) (h : PH) : Prop := h.1 103 1 = nI F
def isF (F : Nat) (a : Int32) : Bool := decide (0 ≤ a ∧ a < nI F)
theorem isF_n {F : Nat} {a : Int32} (h : isF F a = true) (hF : F < 2 ^ 31) : ∃ k : Nat, k < F ∧ a = nI k := by
  obtain ⟨h1, h2⟩ := of_decide_eq_true h
  obtain ⟨j, h3, rfl⟩ := nI_of (Int32.not_lt.mpr h1)
  exact ⟨j, (nI_ltI h3 hF).mp h2, rfl⟩
theorem isF_k {F k : Nat} (h : k < F) (hF : F < 2 ^ 31) : isF F (nI k) = true := decide_eq_true ⟨nI_pos' (by omega), nI_lt h hF⟩
theorem isFloorC_x {F : Nat} {h : PH} (C : HC F h) (a : Int32) : F_X11_isFloor a h = some (if isF F a then 1 else 0, h) := by
  unfold F_X11_isFloor F_X11_isFloor_b19 isF
  rw [C]
  by_cases h1 : a < 0
  · rw [if_pos h1, if_neg (by simp; intro q; exact absurd h1 (Int32.not_lt.mpr q))]
  · rw [if_neg h1]
    by_cases h2 : nI F ≤ a
    · rw [if_pos h2, if_neg (by simp; intro _; exact h2)]
    · rw [if_neg h2, if_pos (by simp; exact ⟨Int32.not_lt.mp h1, Int32.not_le.mp h2⟩)]
theorem isFloorM_x {F : Nat} {h : PH} (C : HM F h) (a : Int32) : F_X12_isFloor a h = some (if isF F a then 1 else 0, h) := by
  unfold F_X12_isFloor F_X12_isFloor_b16 isF
  rw [C]
  by_cases h1 : a < 0
  · rw [if_pos h1, if_neg (by simp; intro q; exact absurd h1 (Int32.not_lt.mpr q))]
  · rw [if_neg h1]
    by_cases h2 : nI F ≤ a
    · rw [if_pos h2, if_neg (by simp; intro _; exact h2)]
    · rw [if_neg h2, if_pos (by simp; exact ⟨Int32.not_lt.mp h1, Int32.not_le.mp h2⟩)]
def wth (a b c : Int32) : Bool := decide (b ≤ a ∧ a ≤ c)
theorem within_x (a b c : Int32) {h : PH} : F_X12_within a b c h = some (if wth a b c then 1 else 0, h) := by
  unfold F_X12_within F_X12_within_b14 wth
  by_cases h1 : a < b
  · rw [if_pos h1, if_neg (by simp; intro q; exact absurd h1 (Int32.not_lt.mpr q))]
  · rw [if_neg h1]
    by_cases h2 : c < a
    · rw [if_pos h2, if_neg (by simp; intro _; exact h2)]
    · rw [if_neg h2, if_pos (by simp; exact ⟨Int32.not_lt.mp h1, Int32.not_lt.mp h2⟩)]
theorem b10_0 {b : Bool} : ((if b = true then (1 : Int32) else 0) = 0) ↔ b = false := by cases b <;> decide
theorem b10_1 {b : Bool} : ((if b = true then (1 : Int32) else 0) = 1) ↔ b = true := by cases b <;> decide
theorem zb_b {b : Bool} : zb (if b = true then (1 : Int32) else 0) = true := by cases b <;> decide
