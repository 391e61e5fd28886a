/-! TOKENS of a TAPE: pure words -/
def run (P : Nat → Bool) : Nat → Nat → Nat
  | 0, p => p
  | k + 1, p => if P p then run P k (p + 1) else p
def eor (P : Nat → Bool) (n p : Nat) : Nat := run P (n - p) p
theorem run_ge {P : Nat → Bool} : ∀ k p, p ≤ run P k p ∧ run P k p ≤ p + k := by
  intro k
  induction k with
  | zero => intro p; exact ⟨Nat.le_refl _, Nat.le_refl _⟩
  | succ k ih =>
    intro p
    unfold run
    by_cases h : P p = true
    · rw [if_pos h]
      have := ih (p + 1)
      omega
    · rw [if_neg h]
      omega
theorem run_in {P : Nat → Bool} : ∀ k p j, p ≤ j → j < run P k p → P j = true := by
  intro k
  induction k with
  | zero => intro p j h1 h2; unfold run at h2; omega
  | succ k ih =>
    intro p j h1 h2
    unfold run at h2
    by_cases h : P p = true
    · rw [if_pos h] at h2
      by_cases e : j = p
      · rw [e]; exact h
      · exact ih (p + 1) j (by omega) h2
    · rw [if_neg h] at h2
      omega
theorem run_out {P : Nat → Bool} : ∀ k p, run P k p < p + k → P (run P k p) = false := by
  intro k
  induction k with
  | zero => intro p h2; unfold run at h2; omega
  | succ k ih =>
    intro p h2
    unfold run at h2 ⊢
    by_cases h : P p = true
    · rw [if_pos h] at h2 ⊢
      exact ih (p + 1) (by omega)
    · rw [if_neg h]
      simpa using h
theorem eor_n {P : Nat → Bool} {n p : Nat} (h : n ≤ p) : eor P n p = p := by
  unfold eor
  rw [Nat.sub_eq_zero_of_le h]
  rfl
theorem eor_t {P : Nat → Bool} {n p : Nat} (h : p < n) (hp : P p = true) : eor P n p = eor P n (p + 1) := by
  unfold eor
  rw [show n - p = (n - (p + 1)) + 1 by omega, run, if_pos hp]
theorem eor_f {P : Nat → Bool} {n p : Nat} (hp : P p = false) : eor P n p = p := by
  unfold eor
  cases h : n - p with
  | zero => rfl
  | succ k => unfold run; rw [hp]; rfl
theorem eor_b {P : Nat → Bool} {n p : Nat} (h : p ≤ n) : p ≤ eor P n p ∧ eor P n p ≤ n := by
  have := run_ge (P := P) (n - p) p
  unfold eor
  omega
theorem eor_in {P : Nat → Bool} {n p j : Nat} (h1 : p ≤ j) (h2 : j < eor P n p) : P j = true := run_in _ _ j h1 h2
theorem eor_out {P : Nat → Bool} {n p : Nat} (h0 : p ≤ n) (h : eor P n p < n) : P (eor P n p) = false := run_out _ _ (by unfold eor at h; omega)
def isB (T : Nat → Nat) (p : Nat) : Bool := decide (T p = 32 ∨ T p = 10)
def isL (T : Nat → Nat) (p : Nat) : Bool := decide (97 ≤ T p ∧ T p ≤ 122)
def isD (T : Nat → Nat) (p : Nat) : Bool := decide (48 ≤ T p ∧ T p ≤ 57)
def slc (T : Nat → Nat) : Nat → Nat → List Nat
  | 0, _ => []
  | k + 1, p => T p :: slc T k (p + 1)
theorem slc_len {T : Nat → Nat} : ∀ k p, (slc T k p).length = k := by
  intro k
  induction k with
  | zero => intro p; rfl
  | succ k ih => intro p; unfold slc; rw [List.length_cons, ih]
theorem slc_mem {T : Nat → Nat} {c : Nat} : ∀ k p, c ∈ slc T k p → ∃ j, p ≤ j ∧ j < p + k ∧ c = T j := by
  intro k
  induction k with
  | zero => intro p h; cases h
  | succ k ih =>
    intro p h
    unfold slc at h
    rcases List.mem_cons.mp h with h | h
    · exact ⟨p, by omega, by omega, h⟩
    · obtain ⟨j, h1, h2, h3⟩ := ih (p + 1) h
      exact ⟨j, by omega, by omega, h3⟩
/-- a word's number: letters as digits 1 to 26 of base 27 -/
def wvl (a : Nat) : List Nat → Nat
  | [] => a
  | c :: l => wvl (a * 27 + (c - 96)) l
def wvr : List Nat → Nat
  | [] => 0
  | c :: l => wvr l * 27 + (c - 96)
theorem wvl_r : ∀ (l m : List Nat), wvl (wvr m) l = wvr (l.reverse ++ m) := by
  intro l
  induction l with
  | nil => intro m; rfl
  | cons c l ih =>
    intro m
    unfold wvl
    rw [show wvr m * 27 + (c - 96) = wvr (c :: m) from rfl, ih, List.reverse_cons, List.append_assoc]
    rfl
def lets (l : List Nat) : Prop := ∀ c, c ∈ l → 97 ≤ c ∧ c ≤ 122
theorem wvr_inj : ∀ l m, lets l → lets m → wvr l = wvr m → l = m := by
  intro l
  induction l with
  | nil =>
    intro m _ hm e
    cases m with
    | nil => rfl
    | cons d m =>
      have := hm d List.mem_cons_self
      unfold wvr at e
      omega
  | cons c l ih =>
    intro m hl hm e
    have hc := hl c List.mem_cons_self
    cases m with
    | nil => unfold wvr at e; omega
    | cons d m =>
      have hd := hm d List.mem_cons_self
      unfold wvr at e
      have e1 : c = d := by omega
      have e2 : wvr l = wvr m := by omega
      rw [e1, ih m (fun x hx => hl x (List.mem_cons_of_mem _ hx)) (fun x hx => hm x (List.mem_cons_of_mem _ hx)) e2]
theorem wvl_inj {l m : List Nat} (hl : lets l) (hm : lets m) (e : wvl 0 l = wvl 0 m) : l = m := by
  have h1 := wvl_r l []
  have h2 := wvl_r m []
  rw [show wvr [] = 0 from rfl, List.append_nil] at h1 h2
  rw [h1, h2] at e
  have := wvr_inj _ _ (fun c hc => hl c (List.mem_reverse.mp hc)) (fun c hc => hm c (List.mem_reverse.mp hc)) e
  exact List.reverse_inj.mp this
def WW : List (List Nat) := [[114, 101, 108, 97, 121], [117, 112], [100, 111, 119, 110], [100, 111, 111, 114], [108, 97, 109, 112], [110, 101, 118, 101, 114], [110, 111, 116], [97, 110, 100], [111, 114], [99, 97, 108, 108], [97, 116], [111, 112, 101, 110], [97, 110, 121], [102, 97, 114], [108, 111, 97, 100], [115, 116, 111, 112, 115], [116, 111, 119, 97, 114, 100], [105, 100, 108, 101], [102, 108, 111, 111, 114], [102, 114, 111, 109], [116, 111], [99, 97, 114], [116, 105, 109, 101]]
def WL : List Nat := WW.flatMap (fun w => w ++ [32])
/-- the place of a word in a list of words, from k on; 1 if it is none -/
def wix (l : List Nat) : Nat → List (List Nat) → Nat
  | _, [] => 1
  | k, w :: ws => if l = w then k else wix l (k + 1) ws
/-- the kind of a word by its number -/
def wkn (v : Nat) : Nat → List (List Nat) → Nat
  | _, [] => 1
  | k, w :: ws => if v = wvl 0 w then k else wkn v (k + 1) ws
theorem wix_n {l : List Nat} (hl : lets l) : ∀ ws k, (∀ w, w ∈ ws → lets w) → wix l k ws = wkn (wvl 0 l) k ws := by
  intro ws
  induction ws with
  | nil => intro k _; rfl
  | cons w ws ih =>
    intro k h
    unfold wix wkn
    by_cases e : l = w
    · rw [if_pos e, if_pos (by rw [e])]
    · rw [if_neg e, if_neg (fun q => e (wvl_inj hl (h w List.mem_cons_self) q)), ih (k + 1) (fun w hw => h w (List.mem_cons_of_mem _ hw))]
theorem WW_l : ∀ w, w ∈ WW → lets w := by
  have : ∀ w, w ∈ WW → ∀ c, c ∈ w → 97 ≤ c ∧ c ≤ 122 := by decide +kernel
  exact this
def dig (T : Nat → Nat) : Nat → Nat → Nat → Nat
  | 0, _, a => a
  | k + 1, p, a => dig T k (p + 1) (a * 10 + (T p - 48))
def sgk (c : Nat) : Nat := if c = 40 then 4 else if c = 41 then 5 else if c = 60 then 6 else if c = 61 then 7 else if c = 43 then 8 else if c = 45 then 9 else if c = 42 then 10 else if c = 59 then 11 else 1
/-- the end of the token at b -/
def tke (n : Nat) (T : Nat → Nat) (b : Nat) : Nat := if n ≤ b then n else if isL T b then eor (isL T) n b else if isD T b then eor (isD T) n b else b + 1
def wnm (n : Nat) (T : Nat → Nat) (b : Nat) : Nat := wvl 0 (slc T (min 8 (tke n T b - b)) b)
def nnm (n : Nat) (T : Nat → Nat) (b : Nat) : Nat := dig T (min 4 (tke n T b - b)) b 0
/-- its kind -/
def tkk (n : Nat) (T : Nat → Nat) (b : Nat) : Nat := if n ≤ b then 0 else if isL T b then (if 8 < tke n T b - b then 1 else if wnm n T b ≤ 8 then 3 else wkn (wnm n T b) 12 WW) else if isD T b then (if 4 < tke n T b - b then 1 else 2) else sgk (T b)
def tkv (n : Nat) (T : Nat → Nat) (b : Nat) : Nat := if n ≤ b then 0 else if isL T b then (if 8 < tke n T b - b then 0 else if wnm n T b ≤ 8 then wnm n T b - 1 else 0) else if isD T b then nnm n T b else 0
def skp (n : Nat) (T : Nat → Nat) (p : Nat) : Nat := eor (isB T) n p
/-- where the search for token i begins; where it begins -/
def tps (n : Nat) (T : Nat → Nat) : Nat → Nat
  | 0 => 0
  | i + 1 => tke n T (skp n T (tps n T i))
def tkb (n : Nat) (T : Nat → Nat) (i : Nat) : Nat := skp n T (tps n T i)
theorem tke_b {n : Nat} {T : Nat → Nat} {b : Nat} (h : b < n) : b < tke n T b ∧ tke n T b ≤ n := by
  unfold tke
  rw [if_neg (by omega)]
  by_cases h1 : isL T b = true
  · rw [if_pos h1, eor_t h h1]
    have := eor_b (P := isL T) (n := n) (p := b + 1) (by omega)
    omega
  · rw [if_neg h1]
    by_cases h2 : isD T b = true
    · rw [if_pos h2, eor_t h h2]
      have := eor_b (P := isD T) (n := n) (p := b + 1) (by omega)
      omega
    · rw [if_neg h2]
      omega
theorem tke_n {n : Nat} {T : Nat → Nat} {b : Nat} (h : n ≤ b) : tke n T b = n := by unfold tke; rw [if_pos h]
theorem tps_le {n : Nat} {T : Nat → Nat} : ∀ i, tps n T i ≤ n := by
  intro i
  induction i with
  | zero => exact Nat.zero_le _
  | succ i ih =>
    unfold tps
    have := eor_b (P := isB T) ih
    by_cases h : skp n T (tps n T i) < n
    · exact (tke_b h).2
    · rw [tke_n (by omega)]; exact Nat.le_refl _
theorem tkb_le {n : Nat} {T : Nat → Nat} (i : Nat) : tps n T i ≤ tkb n T i ∧ tkb n T i ≤ n := eor_b (tps_le i)
theorem tkb_ge {n : Nat} {T : Nat → Nat} : ∀ i, (∀ j, j < i → tkb n T j < n) → i ≤ tps n T i := by
  intro i
  induction i with
  | zero => intro _; exact Nat.zero_le _
  | succ i ih =>
    intro h
    have h1 := ih (fun j hj => h j (by omega))
    have h2 := tke_b (T := T) (h i (by omega))
    have h3 := (tkb_le (n := n) (T := T) i).1
    show i + 1 ≤ tke n T (tkb n T i)
    omega
theorem wvl_b : ∀ (l : List Nat) (a : Nat), lets l → wvl a l ≤ (a + 1) * 27 ^ l.length := by
  intro l
  induction l with
  | nil =>
    intro a _
    show a ≤ (a + 1) * 1
    omega
  | cons c l ih =>
    intro a h
    have hc := h c List.mem_cons_self
    have h1 := ih (a * 27 + (c - 96)) (fun x hx => h x (List.mem_cons_of_mem _ hx))
    unfold wvl
    rw [List.length_cons, Nat.pow_succ]
    have h2 : (a * 27 + (c - 96) + 1) * 27 ^ l.length ≤ ((a + 1) * 27) * 27 ^ l.length := Nat.mul_le_mul_right _ (by omega)
    have h3 : (a + 1) * 27 * 27 ^ l.length = (a + 1) * (27 ^ l.length * 27) := by rw [Nat.mul_assoc, Nat.mul_comm 27]
    omega
