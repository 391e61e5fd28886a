/-! a tick on both sides -/
def rl (p : Nat → Bool) : Nat → Nat
  | 0 => 0
  | n + 1 => rl p n + (if p n then 2 ^ n else 0)
theorem rl_lt (p : Nat → Bool) : ∀ n, rl p n < 2 ^ n := by
  intro n
  induction n with
  | zero => exact Nat.one_pos
  | succ n ih =>
    unfold rl
    rw [Nat.pow_succ]
    by_cases g : p n = true
    · rw [if_pos g]; omega
    · rw [if_neg g]; omega
theorem rl8 (p : Nat → Bool) : rl p 8 < 256 := rl_lt p 8
def nxa (F : Nat) (s : Nat × Nat × Nat) (r : Nat) (u d o : Bool) : (Nat × Nat × Nat) × Nat := if s.2.2 = 1 ∨ u = d then ((r, s.2.1, if o then 1 else 0), 0) else if u then (if s.2.1 + 1 < F then ((r, s.2.1 + 1, 0), 0) else ((r, s.2.1, 0), 1)) else (if 0 < s.2.1 then ((r, s.2.1 - 1, 0), 0) else ((r, s.2.1, 0), 1))
def rel (T : Nat → Int32 → Bool) (s : Nat × Nat × Nat) (j : Nat) : Nat := rl (fun i => T i (nI (fct s j s.1))) 8
def nxt (F : Nat) (T : Nat → Int32 → Bool) (s : Nat × Nat × Nat) (j : Nat) : (Nat × Nat × Nat) × Nat := nxa F s (rel T s j) (T 8 (nI (fct s j (rel T s j)))) (T 9 (nI (fct s j (rel T s j)))) (T 10 (nI (fct s j (rel T s j))))
def lmp (T : Nat → Int32 → Bool) (s : Nat × Nat × Nat) : Nat := rl (fun i => T (11 + i) (nI (fct s 0 s.1))) 8
theorem nxa_ok {F : Nat} {s : Nat × Nat × Nat} {r : Nat} {u d o : Bool} (k : OkS F s) (hr : r < 256) : OkS F (nxa F s r u d o).1 ∧ (nxa F s r u d o).2 < 2 := by
  obtain ⟨k1, k2, k3⟩ := k
  unfold nxa
  by_cases g : s.2.2 = 1 ∨ u = d
  · rw [if_pos g]
    exact ⟨⟨hr, k2, by cases o <;> simp⟩, by simp⟩
  · rw [if_neg g]
    by_cases g2 : u = true
    · rw [if_pos g2]
      by_cases g3 : s.2.1 + 1 < F
      · rw [if_pos g3]; exact ⟨⟨hr, g3, by simp⟩, by simp⟩
      · rw [if_neg g3]; exact ⟨⟨hr, k2, by simp⟩, by simp⟩
    · rw [if_neg g2]
      by_cases g3 : 0 < s.2.1
      · rw [if_pos g3]; exact ⟨⟨hr, by show s.2.1 - 1 < F; omega, by simp⟩, by simp⟩
      · rw [if_neg g3]; exact ⟨⟨hr, k2, by simp⟩, by simp⟩
theorem nxa_s {F : Nat} {s : Nat × Nat × Nat} {r : Nat} {u d o : Bool} (h : s.2.2 = 1 ∨ u = d) : nxa F s r u d o = ((r, s.2.1, if o then 1 else 0), 0) := if_pos h
theorem nxa_u {F : Nat} {s : Nat × Nat × Nat} {r : Nat} {o : Bool} (h : s.2.2 = 0) : nxa F s r true false o = if s.2.1 + 1 < F then ((r, s.2.1 + 1, 0), 0) else ((r, s.2.1, 0), 1) := by
  unfold nxa
  rw [if_neg (by rw [h]; decide), if_pos rfl]
theorem nxa_d {F : Nat} {s : Nat × Nat × Nat} {r : Nat} {o : Bool} (h : s.2.2 = 0) : nxa F s r false true o = if 0 < s.2.1 then ((r, s.2.1 - 1, 0), 0) else ((r, s.2.1, 0), 1) := by
  unfold nxa
  rw [if_neg (by rw [h]; decide), if_neg (by decide)]
theorem nxt_ok {F : Nat} {T : Nat → Int32 → Bool} {s : Nat × Nat × Nat} {j : Nat} (k : OkS F s) : OkS F (nxt F T s j).1 ∧ (nxt F T s j).2 < 2 := nxa_ok k (rl8 _)
section
variable {F N nv : Nat} {T : Nat → Int32 → Bool} {s : Nat × Nat × Nat} {j : Nat}
theorem LnT_20 {h h' : PH} (L : LnT T nv h) (f : fr [20] h h') : LnT T nv h' := LnT_q L (fun a b p => congrFun (f a (by unfold LnP at p; simp; omega)) b)
theorem LnT_v {h h' : PH} (L : LnT T nv h) (f : VF h h') : LnT T nv h' := LnT_q L (fun a b p => congrFun (f.1 a (by unfold LnP at p; omega)) b)
theorem stp12 (hN : 5000 ≤ N) {x1 bits : Int32} : ∀ (fu i : Nat) (h : PH), i ≤ 8 → 8 < fu + i → LnT T nv h → ∃ h', F_X4_step_b12 N fu x1 bits (nI (rl (fun i => T i bits) i)) (nI i) h = F_X4_step_b47 N x1 bits (nI (rl (fun i => T i bits) 8)) h' ∧ fr [20] h h' := by
  intro fu
  induction fu with
  | zero => intro i h h1 h2; omega
  | succ fu ih =>
    intro i h h1 h2 L
    rw [F_X4_step_b12]
    by_cases g : i = 8
    · subst g
      rw [if_pos (by decide)]
      exact ⟨h, rfl, fr_0⟩
    · rw [if_neg (fun z => by have := (l_le_n 8 (by omega) (by omega)).mp z; omega)]
      obtain ⟨v, h', e, q, f⟩ := val_T (bits := bits) hN L (show i < 25 by omega)
      rw [e, bI_s]
      unfold F_X4_step_b41
      simp only [ib_e]
      rw [nI_1]
      obtain ⟨h2', e2, f2⟩ := ih (i + 1) h' (by omega) (by omega) (LnT_20 L f)
      refine ⟨h2', ?_, fr_t f f2⟩
      rw [← e2]
      by_cases z : v = 0
      · rw [if_pos z, rl, if_neg (by rw [q.mp z]; decide)]; rfl
      · rw [if_neg z, or_bit (rl_lt _ i) (by omega), rl, if_pos (by
          cases y : T i bits with
          | true => rfl
          | false => exact absurd (q.mpr y) z)]
theorem lmp11 (hN : 5000 ≤ N) {bits : Int32} : ∀ (fu i : Nat) (h : PH), i ≤ 8 → 8 < fu + i → LnT T nv h → okI (F_X4_lampsIn_b11 N fu bits (nI (rl (fun i => T (11 + i) bits) i)) (nI i) h) (fun v h' => v = nI (rl (fun i => T (11 + i) bits) 8) ∧ fr [20] h h') := by
  intro fu
  induction fu with
  | zero => intro i h h1 h2; omega
  | succ fu ih =>
    intro i h h1 h2 L
    rw [F_X4_lampsIn_b11]
    by_cases g : i = 8
    · subst g
      rw [if_pos (by decide)]
      exact okI_s ⟨rfl, fr_0⟩
    · rw [if_neg (fun z => by have := (l_le_n 8 (by omega) (by omega)).mp z; omega), show (11 : Int32) = nI 11 from rfl, nI_add]
      obtain ⟨v, h', e, q, f⟩ := val_T (bits := bits) hN L (show 11 + i < 25 by omega)
      rw [e, bI_s]
      unfold F_X4_lampsIn_b41
      simp only [ib_e]
      rw [nI_1]
      have e2 := ih (i + 1) h' (by omega) (by omega) (LnT_20 L f)
      refine okI_m (P := fun v h2 => v = nI (rl (fun i => T (11 + i) bits) 8) ∧ fr [20] h' h2) ?_ (fun r k z => ⟨z.1, fr_t f z.2⟩)
      by_cases z : v = 0
      · rw [rl, if_neg (by rw [q.mp z]; decide)] at e2
        rw [if_pos z]
        exact e2
      · rw [rl, if_pos (by
          cases y : T (11 + i) bits with
          | true => rfl
          | false => exact absurd (q.mpr y) z)] at e2
        rw [if_neg z, or_bit (rl_lt _ i) (by omega)]
        exact e2
theorem lampsC {h : PH} (hN : 5000 ≤ N) (L : LnT T nv h) (o : OkS F s) (hF : F ≤ 6) : okI (F_X4_lampsIn N (nI (csN s)) h) (fun v h' => v = nI (lmp T s) ∧ fr [20] h h') := by
  unfold F_X4_lampsIn
  rw [show (-1 : Int32) = bu 0 from rfl, factsC o hF (Nat.zero_le _), bI_s]
  exact lmp11 hN N 0 h (by omega) (by omega) L
theorem neverC {l : Nat} {h : PH} (hN : 5000 ≤ N) (L : LnT T nv h) (o : OkS F s) (hF : F ≤ 6) (hl : l < 6) : okI (F_X4_breaksNever N (nI (csN s)) (nI l) h) (fun v h' => v = (if T (19 + l) (nI (fct s 0 s.1)) = true then 1 else 0) ∧ fr [20] h h') := by
  unfold F_X4_breaksNever
  rw [show (-1 : Int32) = bu 0 from rfl, factsC o hF (Nat.zero_le _), bI_s, show (19 : Int32) = nI 19 from rfl, nI_add]
  refine okI_bI (okI_m (val_T hN L (show 19 + l < 25 by omega)) (fun v k q => ?_))
  by_cases z : v = 0
  · rw [if_pos z]; exact okI_s ⟨by rw [q.1.mp z]; rfl, q.2⟩
  · rw [if_neg z]
    refine okI_s ⟨?_, q.2⟩
    cases y : T (19 + l) (nI (fct s 0 s.1)) with
    | true => rfl
    | false => exact absurd (q.1.mpr y) z
theorem csN_2 {r : Nat} : csN (r, s.2) = r + 256 * s.2.1 + 2048 * s.2.2 := rfl
theorem csN_3 {a b c : Nat} : csN (a, b, c) = a + 256 * b + 2048 * c := rfl
theorem csN_1 : csN s = s.1 + 256 * s.2.1 + 2048 * s.2.2 := rfl
theorem stepC {h : PH} (hN : 5000 ≤ N) (L : LnT T nv h) (C : HC F h) (o : OkS F s) (hF : F ≤ 6) (hj : j ≤ F) : okI (F_X4_step N (nI (csN s)) (bu j) h) (fun v h' => v = nI (csN (nxt F T s j).1 + 4096 * (nxt F T s j).2) ∧ fr [20] h h') := by
  unfold F_X4_step
  rw [factsC o hF hj, bI_s]
  obtain ⟨h1, e1, f1⟩ := stp12 (T := T) (nv := nv) hN (x1 := nI (csN s)) (bits := nI (fct s j s.1)) N 0 h (by omega) (by omega) L
  rw [show F_X4_step_b12 N N (nI (csN s)) (nI (fct s j s.1)) 0 0 h = _ from e1, show rl (fun i => T i (nI (fct s j s.1))) 8 = rel T s j from rfl]
  have hr : rel T s j < 256 := rl8 _
  unfold nxt
  generalize rel T s j = r at hr ⊢
  unfold F_X4_step_b47
  have o6 : OkS 6 s := ⟨o.1, by have := o.2.1; omega, o.2.2⟩
  rw [and_m256, show 256 * (fct s j s.1 / 256) = 256 * xct s.2.1 s.2.2 j by have := o.1; unfold fct; omega, or_low hr, ib_e, show 256 * xct s.2.1 s.2.2 j + r = fct s j r from rfl]
  generalize fct s j r = b
  obtain ⟨v10, h2, e2, q10, f2⟩ := val_T (bits := nI b) hN (LnT_20 L f1) (show 10 < 25 by omega)
  have L2 := LnT_20 L (fr_t f1 f2)
  obtain ⟨v8, h3, e3, q8, f3⟩ := val_T (bits := nI b) hN L2 (show 8 < 25 by omega)
  obtain ⟨v9, h4, e4, q9, f4⟩ := val_T (bits := nI b) hN (LnT_20 L2 f3) (show 9 < 25 by omega)
  have hF4 : h4.1 14 1 = nI F := by rw [f4 14 (by simp), f3 14 (by simp), f2 14 (by simp), f1 14 (by simp)]; exact C
  rw [show F_X2_value N 15 10 (nI b) h1 = _ from e2, bI_s]
  have b76 : ∀ x, F_X4_step_b76 N (nI (csN s)) (nI r) (nI b) x h2 = if s.2.2 = 0 then (if v8 = 0 then F_X4_step_b132 N (nI (csN s)) (nI b) x (nI (csN (r, s.2))) 0 h3 else F_X4_step_b132 N (nI (csN s)) (nI b) x (nI (csN (r, s.2))) 1 h3) else (if x = 0 then some (nI (csN (r, s.2)) &&& -2049, h2) else some (nI (csN (r, s.2)), h2)) := by
    intro x
    unfold F_X4_step_b76
    rw [and_m256, or_low hr, show 256 * (csN s / 256) + r = csN (r, s.2) by have := o.1; show 256 * ((s.1 + 256 * s.2.1 + 2048 * s.2.2) / 256) + r = r + 256 * s.2.1 + 2048 * s.2.2; omega, ib_e, show F_X2_value N 15 8 (nI b) h2 = _ from e3, bI_s]
    by_cases g : s.2.2 = 0
    · rw [if_pos g, if_pos ((openC o hF).mpr g)]
    · rw [if_neg g, if_neg (fun z => g ((openC o hF).mp z))]
  have b132 : ∀ x y, F_X4_step_b132 N (nI (csN s)) (nI b) x (nI (csN (r, s.2))) y h3 = if v9 = 0 then F_X4_step_b153 N (nI (csN s)) x (nI (csN (r, s.2))) y 0 h4 else F_X4_step_b153 N (nI (csN s)) x (nI (csN (r, s.2))) y 1 h4 := by
    intro x y
    unfold F_X4_step_b132
    rw [show F_X2_value N 15 9 (nI b) h3 = _ from e4, bI_s]
  have sh : ∀ k : Nat, k < F → F_X4_shifted (nI (csN (r, s.2))) (nI k) h4 = some (nI (csN (r, k, 0)), h4) := by
    intro k hk
    unfold F_X4_shifted
    rw [if_neg (nI_pos (by omega)), hF4, if_pos (nI_lt hk (by omega)), relC (s := (r, s.2)) ⟨hr, o.2.1, o.2.2⟩ hF, pk_shlN _ 8 (by decide) (by omega), Int32.or_comm, show k * 2 ^ 8 = 256 * k by omega, or_low hr]
    rw [csN_3, show 256 * k + r = r + 256 * k + 2048 * 0 by omega]
  have bp : ∀ x, (x < 0 ∨ nI F ≤ x) → s.2.2 = 0 → F_X4_shifted (nI (csN (r, s.2))) x h4 = some (nI (csN (r, s.2.1, 0) + 4096 * 1), h4) := by
    intro x hx z
    unfold F_X4_shifted F_X4_shifted_b12
    have e : nI (csN (r, s.2)) ||| 4096 = nI (csN (r, s.2.1, 0) + 4096 * 1) := by
      rw [Int32.or_comm]
      have := fa_or_sum (a := csN (r, s.2)) (k := 12) 1 (cs_lt (s := (r, s.2)) ⟨hr, o.2.1, o.2.2⟩ hF)
      rw [show (4096 : Int32) = nI (2 ^ 12 * 1) from rfl, this, csN_2, csN_3, z, Nat.add_comm]
    rw [hF4, e]
    rcases hx with hx | hx
    · rw [if_pos hx]
    · by_cases q : x < 0
      · rw [if_pos q]
      · rw [if_neg q, if_neg (Int32.not_lt.mpr hx)]
  have fl : F_X11_floorOf (nI (csN s)) h4 = some (nI s.2.1, h4) := floorC o hF
  have fr4 : fr [20] h h4 := fr_t f1 (fr_t f2 (fr_t f3 f4))
  have up : F_X4_step_b179 N 1 (nI s.2.1) (nI (csN (r, s.2))) h4 = F_X4_shifted (nI (csN (r, s.2))) (nI (s.2.1 + 1)) h4 := by
    unfold F_X4_step_b179
    rw [nI_1]
    cases F_X4_shifted (nI (csN (r, s.2))) (nI (s.2.1 + 1)) h4 <;> rfl
  have dn : F_X4_step_b179 N (-1) (nI s.2.1) (nI (csN (r, s.2))) h4 = F_X4_shifted (nI (csN (r, s.2))) (nI s.2.1 + -1) h4 := by
    unfold F_X4_step_b179
    cases F_X4_shifted (nI (csN (r, s.2))) (nI s.2.1 + -1) h4 <;> rfl
  have b153 : ∀ (x : Int32) (u d : Bool), s.2.2 = 0 → F_X4_step_b153 N (nI (csN s)) x (nI (csN (r, s.2))) (if u then 1 else 0) (if d then 1 else 0) h4 = some (nI (csN (nxa F s r u d (decide (x ≠ 0))).1 + 4096 * (nxa F s r u d (decide (x ≠ 0))).2), h4) := by
    intro x u d z
    unfold F_X4_step_b153
    have e0 : nI (csN (r, s.2)) = nI (csN (r, s.2.1, 0) + 4096 * 0) := by
      rw [csN_2, csN_3, z]
    have e1 : nI (csN (r, s.2)) ||| 2048 = nI (csN (r, s.2.1, 1) + 4096 * 0) := by
      have q := o.2.1
      rw [e0, Int32.or_comm]
      have := fa_or_sum (a := csN (r, s.2.1, 0) + 4096 * 0) (k := 11) 1 (by rw [csN_3]; omega)
      rw [show (2048 : Int32) = nI (2 ^ 11 * 1) from rfl, this, csN_3, csN_3]
      rw [show 2 ^ 11 * 1 + (r + 256 * s.2.1 + 2048 * 0 + 4096 * 0) = r + 256 * s.2.1 + 2048 * 1 + 4096 * 0 by omega]
    have same : (if x = 0 then some (nI (csN (r, s.2)), h4) else some (nI (csN (r, s.2)) ||| 2048, h4)) = some (nI (csN (r, s.2.1, if decide (x ≠ 0) = true then 1 else 0) + 4096 * 0), h4) := by
      rw [e1, e0]
      by_cases q : x = 0
      · rw [if_pos q]; simp [q]
      · rw [if_neg q]; simp [q]
    cases u <;> cases d
    · rw [nxa_s (Or.inr rfl)]
      show (if (0 : Int32) = 0 then _ else _) = _
      rw [if_pos rfl]; exact same
    · rw [nxa_d z]
      show (if (0 : Int32) = 1 then _ else _) = _
      rw [if_neg (by decide), fl, bI_s, if_pos (by decide), dn]
      by_cases q : 0 < s.2.1
      · rw [if_pos q]
        obtain ⟨k, hk⟩ : ∃ k, s.2.1 = k + 1 := ⟨s.2.1 - 1, by omega⟩
        rw [hk, pk_m1, sh k (by have := o.2.1; omega)]
        rfl
      · have q0 : s.2.1 = 0 := by omega
        rw [if_neg q, bp _ (Or.inl (by rw [q0]; decide)) z]
    · rw [nxa_u z]
      show (if (1 : Int32) = 0 then _ else _) = _
      rw [if_neg (by decide), fl, bI_s, if_neg (by decide), up]
      by_cases q : s.2.1 + 1 < F
      · rw [if_pos q, sh _ q]
        rfl
      · rw [if_neg q, bp _ (Or.inr (nI_le (by omega) (by have := o.2.1; omega))) z]
    · rw [nxa_s (Or.inr rfl)]
      show (if (1 : Int32) = 1 then _ else _) = _
      rw [if_pos rfl]; exact same
  have bv : ∀ (v : Int32) (t : Bool), (v = 0 ↔ t = false) → ∀ (P : Int32 → Option (Int32 × PH)), (if v = 0 then P 0 else P 1) = P (if t then 1 else 0) := by
    intro v t q P
    cases t
    · rw [if_pos (q.mpr rfl)]; rfl
    · rw [if_neg (fun z => by have := q.mp z; cases this)]; rfl
  rw [bv v10 _ q10 (fun x => F_X4_step_b76 N (nI (csN s)) (nI r) (nI b) x h2), b76]
  by_cases g : s.2.2 = 0
  · rw [if_pos g, bv v8 _ q8 (fun y => F_X4_step_b132 N (nI (csN s)) (nI b) (if T 10 (nI b) = true then 1 else 0) (nI (csN (r, s.2))) y h3), b132, bv v9 _ q9 (fun y => F_X4_step_b153 N (nI (csN s)) (if T 10 (nI b) = true then 1 else 0) (nI (csN (r, s.2))) (if T 8 (nI b) = true then 1 else 0) y h4), b153 _ _ _ g]
    refine okI_s ⟨?_, fr4⟩
    rw [show decide (¬ (if T 10 (nI b) = true then (1 : Int32) else 0) = 0) = T 10 (nI b) by cases T 10 (nI b) <;> decide]
  · rw [if_neg g]
    have g1 : s.2.2 = 1 := by have := o.2.2; omega
    rw [nxa_s (Or.inl g1)]
    cases T 10 (nI b) with
    | false =>
      rw [if_pos (by decide), st4 (cs_lt (s := (r, s.2)) ⟨hr, o.2.1, o.2.2⟩ hF)]
      refine okI_s ⟨?_, fr_t f1 f2⟩
      have q := o.2.1
      show nI ((r + 256 * s.2.1 + 2048 * s.2.2) % 2048) = nI (r + 256 * s.2.1 + 2048 * 0 + 4096 * 0)
      rw [show (r + 256 * s.2.1 + 2048 * s.2.2) % 2048 = r + 256 * s.2.1 + 2048 * 0 + 4096 * 0 by omega]
    | true =>
      rw [if_neg (by decide)]
      refine okI_s ⟨?_, fr_t f1 f2⟩
      show nI (r + 256 * s.2.1 + 2048 * s.2.2) = nI (r + 256 * s.2.1 + 2048 * 1 + 4096 * 0)
      rw [g1]
end
