/-! a number's nibbles, and how many of its bits are set -/
def nib : List Nat → Nat
  | [] => 0
  | y :: ys => 16 * nib ys + y
theorem nb_and1 {a b m c : Nat} (ha : a < 16) (hm : m < 16) : (16 * b + a) &&& (16 * c + m) = 16 * (b &&& c) + (a &&& m) := by
  have h16 : a &&& m < 2 ^ 4 := Nat.lt_of_le_of_lt Nat.and_le_left ha
  apply Nat.eq_of_testBit_eq
  intro i
  rw [Nat.testBit_and]
  have e1 := Nat.testBit_two_pow_mul_add b (i := 4) ha i
  have e2 := Nat.testBit_two_pow_mul_add c (i := 4) hm i
  have e3 := Nat.testBit_two_pow_mul_add (b &&& c) (i := 4) h16 i
  have p4 : (2 : Nat) ^ 4 = 16 := by decide
  rw [p4] at e1 e2 e3
  rw [e1, e2, e3]
  by_cases q : i < 4
  · simp [q]
  · simp [q]
def nibm (m : Nat) : Nat → Nat
  | 0 => 0
  | k + 1 => 16 * nibm m k + m
theorem nb_shm {d m : Nat} (hd : d = 1 ∨ d = 2 ∨ d = 4) (hm : m < 16) (hf : ∀ r, r < d → ∀ y, y < 16 → ((16 / d) * r + y / d) &&& m = (y / d) &&& m ∧ (16 / d) * r + y / d < 16) : ∀ ys : List Nat, (∀ y, y ∈ ys → y < 16) → (nib ys / d) &&& nibm m ys.length = nib (ys.map (fun y => (y / d) &&& m)) := by
  intro ys
  induction ys with
  | nil => intro _; simp [nib, nibm]
  | cons y ys ih =>
    intro h
    have hy := h y (List.mem_cons_self ..)
    have i1 := ih (fun z hz => h z (List.mem_cons_of_mem _ hz))
    have hd0 : 0 < d := by omega
    have e1 : (16 * nib ys + y) / d = 16 * (nib ys / d) + ((16 / d) * (nib ys % d) + y / d) := by
      rcases hd with rfl | rfl | rfl <;> omega
    obtain ⟨f1, f2⟩ := hf (nib ys % d) (Nat.mod_lt _ hd0) y hy
    show (16 * nib ys + y) / d &&& (16 * nibm m ys.length + m) = 16 * nib (ys.map (fun y => (y / d) &&& m)) + ((y / d) &&& m)
    rw [e1, nb_and1 f2 hm, i1, f1]
theorem nb_plus {f g : Nat → Nat} : ∀ ys : List Nat, nib (ys.map f) + nib (ys.map g) = nib (ys.map (fun y => f y + g y)) := by
  intro ys
  induction ys with
  | nil => rfl
  | cons y ys ih =>
    show (16 * nib (ys.map f) + f y) + (16 * nib (ys.map g) + g y) = 16 * nib (ys.map (fun y => f y + g y)) + (f y + g y)
    omega
theorem nb_cong {f g : Nat → Nat} : ∀ ys : List Nat, (∀ y, y ∈ ys → f y = g y) → nib (ys.map f) = nib (ys.map g) := by
  intro ys
  induction ys with
  | nil => intro _; rfl
  | cons y ys ih =>
    intro h
    show 16 * nib (ys.map f) + f y = 16 * nib (ys.map g) + g y
    rw [ih (fun z hz => h z (List.mem_cons_of_mem _ hz)), h y (List.mem_cons_self ..)]
theorem nb_of : ∀ (k x : Nat), x < 16 ^ k → ∃ ys : List Nat, ys.length = k ∧ (∀ y, y ∈ ys → y < 16) ∧ nib ys = x := by
  intro k
  induction k with
  | zero => intro x hx; exact ⟨[], rfl, fun y hy => absurd hy (by simp), by simp at hx; exact hx.symm⟩
  | succ k ih =>
    intro x hx
    obtain ⟨ys, h1, h2, h3⟩ := ih (x / 16) (by rw [Nat.pow_succ] at hx; omega)
    refine ⟨x % 16 :: ys, by simp [h1], fun y hy => ?_, ?_⟩
    · rcases List.mem_cons.mp hy with rfl | q
      · omega
      · exact h2 y q
    · show 16 * nib ys + x % 16 = x
      rw [h3]; omega
def pc4 (y : Nat) : Nat := ((y - ((y / 2) &&& 5)) / 1 &&& 3) + ((y - ((y / 2) &&& 5)) / 4 &&& 3)
theorem pc4_le : ∀ y, y < 16 → pc4 y ≤ 4 := by decide
theorem pc4_ct : ∀ y, y < 16 → fb_ct (fun i => y.testBit i) 4 = pc4 y := by decide
theorem nb_ct : ∀ ys : List Nat, (∀ y, y ∈ ys → y < 16) → fb_ct (fun i => (nib ys).testBit i) (4 * ys.length) = (ys.map pc4).sum := by
  intro ys
  induction ys with
  | nil => intro _; rfl
  | cons y ys ih =>
    intro h
    have hy := h y (List.mem_cons_self ..)
    have tb : ∀ j, (nib (y :: ys)).testBit j = if j < 4 then y.testBit j else (nib ys).testBit (j - 4) := fun j => by
      have := Nat.testBit_two_pow_mul_add (nib ys) (i := 4) hy j
      rw [show (2 : Nat) ^ 4 = 16 by decide] at this
      exact this
    rw [List.length_cons, show 4 * (ys.length + 1) = 4 + 4 * ys.length by omega, fb_ct_split, List.map_cons, List.sum_cons, ← ih (fun z hz => h z (List.mem_cons_of_mem _ hz)), ← pc4_ct y hy]
    congr 1
    · exact fb_ct_cong (fun k hk => by rw [tb, if_pos hk])
    · exact fb_ct_cong (fun k hk => by rw [tb, if_neg (by omega), show 4 + k - 4 = k by omega])
theorem b_nI (m : Nat) {i : Nat} (hi : i < 32) : bt (nI m) i = m.testBit i := by
  unfold bt
  show (BitVec.ofNat 32 m).getLsbD i = _
  rw [BitVec.getLsbD_ofNat]
  simp [hi]
theorem bitN {x : Nat} (hx : x < 2 ^ 32) (h : PH) : F_J6_bitCount_0f7a4 (nI x) h = some (nI (fb_ct (fun i => x.testBit i) 32), h) := by
  obtain ⟨ys, y1, y2, y3⟩ := nb_of 8 x (by rw [show (16 : Nat) ^ 8 = 2 ^ 32 by decide]; exact hx)
  have m5 : nibm 5 8 = 1431655765 := by decide
  have m3 : nibm 3 8 = 858993459 := by decide
  have a1 := nb_shm (d := 2) (m := 5) (by omega) (by omega) (by decide) ys y2
  have pl : ∀ y, y ∈ ys.map (fun y => y - ((y / 2) &&& 5)) → y < 16 := fun y hy => by
    obtain ⟨w, hw, rfl⟩ := List.mem_map.mp hy
    have := y2 w hw
    omega
  have a2 := nb_shm (d := 1) (m := 3) (by omega) (by omega) (by decide) _ pl
  have a3 := nb_shm (d := 4) (m := 3) (by omega) (by omega) (by decide) _ pl
  rw [List.length_map] at a2 a3
  rw [y1, m5] at a1
  rw [y1, m3, List.map_map] at a2 a3
  have s1 : nib (ys.map (fun y => y - ((y / 2) &&& 5))) + nib (ys.map (fun y => (y / 2) &&& 5)) = nib ys := by
    rw [nb_plus]
    rw [nb_cong (g := fun y => y) ys (fun y hy => ?_)]
    · simp
    · have : (y / 2) &&& 5 ≤ y / 2 := Nat.and_le_left
      omega
  generalize hv1 : nib (ys.map (fun y => y - ((y / 2) &&& 5))) = v1 at a2 a3 s1
  have s2 : (v1 / 1 &&& 858993459) + (v1 / 4 &&& 858993459) = nib (ys.map pc4) := by
    rw [a2, a3, nb_plus]
    rfl
  have l1 : v1 < 2 ^ 32 := by omega
  have ct : fb_ct (fun i => x.testBit i) 32 = (ys.map pc4).sum := by
    rw [← y3]
    have := nb_ct ys y2
    rw [y1] at this
    exact this
  obtain ⟨c, hc, c1⟩ : ∃ c : List Nat, c = ys.map pc4 ∧ ∀ y, y ∈ c → y ≤ 4 := ⟨_, rfl, fun y hy => by
    obtain ⟨w, hw, rfl⟩ := List.mem_map.mp hy
    exact pc4_le w (y2 w hw)⟩
  have c8 : c.length = 8 := by rw [hc, List.length_map, y1]
  rw [← hc] at s2 ct
  unfold F_J6_bitCount_0f7a4
  simp only [ib_e]
  rw [show (1431655765 : Int32) = nI 1431655765 from rfl, show (858993459 : Int32) = nI 858993459 from rfl, show (252645135 : Int32) = nI 252645135 from rfl, show (63 : Int32) = nI 63 from rfl]
  rw [pk_ushrN hx 1 1 (by decide), nx_and]
  have e1 : nI x - nI (x / 2 ^ 1 &&& 1431655765) = nI v1 := by
    rw [show x / 2 ^ 1 = x / 2 by rfl, ← y3, a1, pk_sub (by omega)]
    congr 1; omega
  rw [e1, pk_ushrN l1 2 2 (by decide), nx_and, nx_and, nI_add]
  rw [Nat.div_one] at s2
  rw [show v1 / 2 ^ 2 = v1 / 4 by rfl, s2]
  match c, c8, c1 with
  | [d0, d1, d2, d3, d4, d5, d6, d7], _, c1 =>
    have k0 := c1 d0 (by simp)
    have k1 := c1 d1 (by simp)
    have k2 := c1 d2 (by simp)
    have k3 := c1 d3 (by simp)
    have k4 := c1 d4 (by simp)
    have k5 := c1 d5 (by simp)
    have k6 := c1 d6 (by simp)
    have k7 := c1 d7 (by simp)
    have n2 : nib [d0, d1, d2, d3, d4, d5, d6, d7] < 2 ^ 32 := by simp only [nib]; omega
    have e2 : nib [d0, d1, d2, d3, d4, d5, d6, d7] + nib [d0, d1, d2, d3, d4, d5, d6, d7] / 2 ^ 4 = nib [d0 + d1, d1 + d2, d2 + d3, d3 + d4, d4 + d5, d5 + d6, d6 + d7, d7] := by simp only [nib]; omega
    have e3 : nib [d0 + d1, d1 + d2, d2 + d3, d3 + d4, d4 + d5, d5 + d6, d6 + d7, d7] &&& nib [15, 0, 15, 0, 15, 0, 15, 0] = nib [d0 + d1, 0, d2 + d3, 0, d4 + d5, 0, d6 + d7, 0] := by
      have f15 : ∀ a, a < 16 → a &&& 15 = a := fun a ha => by
        rw [show (15 : Nat) = 2 ^ 4 - 1 by decide, Nat.and_two_pow_sub_one_eq_mod, Nat.mod_eq_of_lt ha]
      simp only [nib]
      rw [nb_and1 (by omega) (by omega), nb_and1 (by omega) (by omega), nb_and1 (by omega) (by omega), nb_and1 (by omega) (by omega), nb_and1 (by omega) (by omega), nb_and1 (by omega) (by omega), nb_and1 (by omega) (by omega), nb_and1 (by omega) (by omega), f15 _ (by omega), f15 _ (by omega), f15 _ (by omega), f15 _ (by omega)]
      simp
    rw [pk_ushrN n2 4 4 (by decide), nI_add, e2, nx_and, show (252645135 : Nat) = nib [15, 0, 15, 0, 15, 0, 15, 0] by decide, e3]
    have n3 : nib [d0 + d1, 0, d2 + d3, 0, d4 + d5, 0, d6 + d7, 0] < 2 ^ 32 := by simp only [nib]; omega
    rw [pk_ushrN n3 8 8 (by decide), nI_add]
    have n4 : nib [d0 + d1, 0, d2 + d3, 0, d4 + d5, 0, d6 + d7, 0] + nib [d0 + d1, 0, d2 + d3, 0, d4 + d5, 0, d6 + d7, 0] / 2 ^ 8 < 2 ^ 32 := by simp only [nib]; omega
    rw [pk_ushrN n4 16 16 (by decide), nI_add, nx_and, show (63 : Nat) = 2 ^ 6 - 1 by decide, Nat.and_two_pow_sub_one_eq_mod, ct]
    have e5 : (nib [d0 + d1, 0, d2 + d3, 0, d4 + d5, 0, d6 + d7, 0] + nib [d0 + d1, 0, d2 + d3, 0, d4 + d5, 0, d6 + d7, 0] / 2 ^ 8 + (nib [d0 + d1, 0, d2 + d3, 0, d4 + d5, 0, d6 + d7, 0] + nib [d0 + d1, 0, d2 + d3, 0, d4 + d5, 0, d6 + d7, 0] / 2 ^ 8) / 2 ^ 16) % 2 ^ 6 = List.sum [d0, d1, d2, d3, d4, d5, d6, d7] := by
      have g0 : nib [d0 + d1, 0, d2 + d3, 0, d4 + d5, 0, d6 + d7, 0] = (d0 + d1) + 256 * (d2 + d3) + 65536 * (d4 + d5) + 16777216 * (d6 + d7) := by simp only [nib]; omega
      have g1 : ((d0 + d1) + 256 * (d2 + d3) + 65536 * (d4 + d5) + 16777216 * (d6 + d7)) / 2 ^ 8 = (d2 + d3) + 256 * (d4 + d5) + 65536 * (d6 + d7) := by omega
      have g2 : ((d0 + d1) + 256 * (d2 + d3) + 65536 * (d4 + d5) + 16777216 * (d6 + d7) + ((d2 + d3) + 256 * (d4 + d5) + 65536 * (d6 + d7))) / 2 ^ 16 = (d4 + d5) + (d6 + d7) + 256 * (d6 + d7) := by omega
      rw [g0, g1, g2]
      simp only [List.sum_cons, List.sum_nil]
      omega
    rw [e5]
theorem bitC (x : Int32) (h : PH) : F_J6_bitCount_0f7a4 x h = some (nI (fb_ct (bt x) 32), h) := by
  obtain ⟨n, hn, rfl⟩ := wb_of32 x
  rw [bitN hn, fb_ct_cong (fun k hk => (b_nI n hk).symm)]
/-! sets as bits -/
def Mk (x : Int32) (n : Nat) (P : Nat → Bool) : Prop := ∀ i, i < 32 → bt x i = (decide (i < n) && P i)
section
variable {x y : Int32} {n : Nat} {P Q : Nat → Bool}
theorem Mk_c (h : Mk x n P) (e : ∀ i, i < n → P i = Q i) : Mk x n Q := fun i hi => by
  rw [h i hi]
  by_cases q : i < n
  · rw [e i q]
  · simp [q]
theorem Mk_e (h : Mk x n P) (h2 : Mk y n P) : x = y := b_ext (fun i hi => by rw [h i hi, h2 i hi])
theorem Mk_and (h : Mk x n P) (h2 : Mk y n Q) : Mk (x &&& y) n (fun i => P i && Q i) := fun i hi => by
  rw [b_and, h i hi, h2 i hi]
  cases decide (i < n) <;> simp
theorem Mk_or (h : Mk x n P) (h2 : Mk y n Q) : Mk (x ||| y) n (fun i => P i || Q i) := fun i hi => by
  rw [b_or, h i hi, h2 i hi]
  cases decide (i < n) <;> simp
theorem Mk_sub (h : Mk x n P) (h2 : Mk y n Q) : Mk (x &&& (y ^^^ -1)) n (fun i => P i && !Q i) := fun i hi => by
  rw [b_and, b_xor, b_m1 i hi, h i hi, h2 i hi]
  cases decide (i < n) <;> simp
theorem Mk_0 : Mk 0 n (fun _ => false) := fun i hi => by rw [b_0]; simp
theorem Mk_0i (hn : n ≤ 32) (h : Mk x n P) : x = 0 ↔ ∀ i, i < n → P i = false := by
  constructor
  · intro e i hi
    have := h i (by omega)
    rw [e, b_0] at this
    simp [hi] at this
    exact this
  · intro e
    refine Mk_e (P := fun _ => false) (n := n) (Mk_c h e) Mk_0
theorem b_one {k i : Nat} (hk : k < 32) (hi : i < 32) : bt ((1 : Int32) <<< (nI k &&& 31)) i = decide (i = k) := by
  rw [b_shl k hk _ hi]
  have o : ∀ j, j < 32 → bt 1 j = decide (j = 0) := by decide +kernel
  by_cases q : k ≤ i
  · rw [o _ (by omega)]
    simp [q]
    omega
  · simp [q]
    omega
theorem Mk_1 {k : Nat} (hk : k < n) (hn : n ≤ 32) : Mk ((1 : Int32) <<< (nI k &&& 31)) n (fun i => decide (i = k)) := fun i hi => by
  rw [b_one (by omega) hi]
  by_cases q : i = k
  · subst q; simp [hk]
  · simp [q]
theorem Mk_bit {k : Nat} (hk : k < n) (hn : n ≤ 32) (h : Mk x n P) : ((x >>> (nI k &&& 31)) &&& 1) = if P k = true then 1 else 0 := by
  have o : ∀ j, j < 32 → bt 1 j = decide (j = 0) := by decide +kernel
  apply b_ext
  intro i hi
  rw [b_and, b_sshr k (by omega) x hi, o i hi]
  by_cases q : i = 0
  · subst q
    rw [if_pos (by omega), show k + 0 = k by omega, h k (by omega)]
    cases hp : P k
    · simp [b_0]
    · simp [hk, o]
  · cases hp : P k
    · simp [q, b_0]
    · simp [q, o i hi]
theorem Mk_ct (hn : n ≤ 32) (h : Mk x n P) : fb_ct (bt x) 32 = fb_ct P n := by
  have e : 32 = n + (32 - n) := by omega
  have z : fb_ct (fun k => bt x (n + k)) (32 - n) = 0 := fb_ct_zero.mpr (fun k hk => by rw [h (n + k) (by omega)]; simp; omega)
  rw [e, fb_ct_split, z, fb_ct_cong (q := P) (fun k hk => by rw [h k (by omega)]; simp [hk])]
  rfl
theorem Mk_all : ∀ n, n < 25 → Mk (((1 : Int32) <<< (nI n &&& 31)) - 1) n (fun _ => true) := by
  have : ∀ n, n < 25 → ∀ i, i < 32 → bt (((1 : Int32) <<< (nI n &&& 31)) - 1) i = (decide (i < n) && true) := by decide +kernel
  exact this
/-- there is one -/
def exn (n : Nat) (P : Nat → Bool) : Bool := decide (0 < fb_ct P n)
theorem exn_t : exn n P = true ↔ ∃ i, i < n ∧ P i = true := by
  unfold exn
  rw [decide_eq_true_iff]
  exact fb_ct_pos
theorem exn_f : exn n P = false ↔ ∀ i, i < n → P i = false := by
  rw [← fb_ct_zero]
  unfold exn
  rw [decide_eq_false_iff_not]
  omega
theorem exn_c (e : ∀ i, i < n → P i = Q i) : exn n P = exn n Q := by
  unfold exn
  rw [fb_ct_cong e]
end
