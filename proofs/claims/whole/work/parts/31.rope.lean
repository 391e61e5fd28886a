/-! the rope: L lines (low, high, counted), SLIP, LIFE, DAYS -/
def isum (t : Nat → Int) : Nat → Int
  | 0 => 0
  | n + 1 => isum t n + t n
theorem isum_le {t : Nat → Int} {b : Int} : ∀ n, (∀ k, k < n → -b ≤ t k ∧ t k ≤ b) → -(b * n) ≤ isum t n ∧ isum t n ≤ b * n := by
  intro n
  induction n with
  | zero => intro _; simp [isum]
  | succ n ih =>
    intro h
    have h1 := ih (fun k hk => h k (by omega))
    have h2 := h n (by omega)
    have e : b * ((n + 1 : Nat) : Int) = b * n + b := by rw [Int.natCast_add, Int.mul_add]; simp
    rw [e]
    unfold isum
    omega
theorem isum_eq {t u : Nat → Int} : ∀ n, (∀ k, k < n → t k = u k) → isum t n = isum u n := by
  intro n
  induction n with
  | zero => intro _; rfl
  | succ n ih =>
    intro h
    unfold isum
    rw [ih (fun k hk => h k (by omega)), h n (by omega)]
theorem isum_sub {t u v : Nat → Int} : ∀ n, (∀ k, k < n → v k = t k - u k) → isum v n = isum t n - isum u n := by
  intro n
  induction n with
  | zero => intro _; rfl
  | succ n ih =>
    intro h
    unfold isum
    rw [ih (fun k hk => h k (by omega)), h n (by omega)]
    omega
abbrev RT : Type := Nat × Nat × Nat × Nat × (Nat → Nat) × (Nat → Nat) × (Nat → Nat)
/-- lines, SLIP, LIFE, DAYS within their bounds -/
def RB (r : RT) : Prop := match r with
  | (L, S, Li, D, lo, hi, cn) => L ≤ 40 ∧ S ≤ 50 ∧ 1 ≤ Li ∧ Li ≤ 999999 ∧ 1 ≤ D ∧ D ≤ 9999 ∧ ∀ k, k < L → lo k < 6 ∧ hi k < 6 ∧ 1 ≤ cn k ∧ cn k ≤ 9999
def RC (r : RT) (h : PH) : Prop := match r with
  | (L, S, Li, D, lo, hi, cn) => h.1 99 0 = nI L ∧ h.1 99 4 = nI S ∧ h.1 99 5 = nI Li ∧ h.1 99 6 = nI D ∧ ∀ k, k < L → h.1 100 k = nI (lo k) ∧ h.1 101 k = nI (hi k) ∧ h.1 102 k = nI (cn k)
def RM (r : RT) (h : PH) : Prop := match r with
  | (L, S, Li, D, lo, hi, cn) => h.1 103 75 = nI L ∧ h.1 103 79 = nI S ∧ h.1 103 80 = nI Li ∧ h.1 103 81 = nI D ∧ ∀ k, k < L → h.1 150 k = nI (lo k) ∧ h.1 151 k = nI (hi k) ∧ h.1 152 k = nI (cn k)
def rpass (lo hi : Nat → Nat) (k p : Nat) : Bool := decide (lo k ≤ p ∧ p < hi k)
def rslip (S : Nat) (cn : Nat → Nat) (k : Nat) : Int := ((cn k * S / 100 : Nat) : Int)
def rterm (S : Nat) (lo hi cn : Nat → Nat) (p f : Nat) (m : Bool) (k : Nat) : Int := if rpass lo hi k p then (if rpass lo hi k f = m then (cn k : Int) + rslip S cn k else (cn k : Int) - rslip S cn k) else 0
theorem rslip_b {S : Nat} {cn : Nat → Nat} {k : Nat} (hS : S ≤ 50) (hc : cn k ≤ 9999) : 0 ≤ rslip S cn k ∧ rslip S cn k ≤ 4999 := by
  unfold rslip
  have : cn k * S ≤ 9999 * 50 := Nat.mul_le_mul hc hS
  omega
theorem rterm_b {S : Nat} {lo hi cn : Nat → Nat} {p f : Nat} {m : Bool} {k : Nat} (hS : S ≤ 50) (hc : cn k ≤ 9999) : -20000 ≤ rterm S lo hi cn p f m k ∧ rterm S lo hi cn p f m k ≤ 20000 := by
  have := rslip_b (k := k) hS hc
  unfold rterm
  split
  · split <;> omega
  · omega
section
variable {L S Li D : Nat} {lo hi cn : Nat → Nat} {h : PH}
theorem passes_x (B : RB (L, S, Li, D, lo, hi, cn)) (C : RC (L, S, Li, D, lo, hi, cn) h) {i p : Nat} (hi' : i < L) (hp : p < 2 ^ 31) : F_X7_passes (nI i) (nI p) h = some (if rpass lo hi i p then 1 else 0, h) := by
  obtain ⟨b1, b2, b3, b4, b5, b6, b7⟩ := B
  obtain ⟨c1, c2, c3, c4, c5⟩ := C
  obtain ⟨d1, d2, d3⟩ := c5 i hi'
  obtain ⟨f1, f2, f3⟩ := b7 i hi'
  have e : (nI i).toNatClampNeg = i := nI_clamp (by omega)
  unfold F_X7_passes F_X7_passes_b24
  rw [if_pos (nI_in0 (by omega) (by omega)), e, d1, d2]
  unfold rpass
  by_cases g1 : p < lo i
  · rw [if_pos (nI_lt g1 (by omega)), if_neg (by simp; omega)]
  · rw [if_neg (nI_nlt (by omega) (by omega))]
    rw [if_pos (nI_in0 (by omega) (by omega))]
    by_cases g2 : hi i ≤ p
    · rw [if_pos (nI_le g2 (by omega)), if_neg (by simp; omega)]
    · rw [if_neg (nI_ge (by omega) (by omega)), if_pos (by simp; omega)]
theorem trueNumber_x (B : RB (L, S, Li, D, lo, hi, cn)) (C : RC (L, S, Li, D, lo, hi, cn) h) {i : Nat} (hi' : i < L) (m : Bool) : F_X7_trueNumber (nI i) (if m then 1 else 0) h = some (iI (if m then (cn i : Int) + rslip S cn i else (cn i : Int) - rslip S cn i), h) := by
  obtain ⟨b1, b2, b3, b4, b5, b6, b7⟩ := B
  obtain ⟨c1, c2, c3, c4, c5⟩ := C
  obtain ⟨d1, d2, d3⟩ := c5 i hi'
  obtain ⟨f1, f2, f3⟩ := b7 i hi'
  have e : (nI i).toNatClampNeg = i := nI_clamp (by omega)
  have hm : cn i * S ≤ 9999 * 50 := Nat.mul_le_mul f3.2 b2
  unfold F_X7_trueNumber
  rw [if_pos (nI_in0 (by omega) (by omega)), e, d3, c2, pk_mul, show (100 : Int32) = nI 100 from rfl, pk_div (by omega) (by omega) (by omega)]
  unfold ib rslip
  cases m with
  | true => simp only [if_true]; rw [if_neg (by decide), iI_nat, iI_nat, iI_add]
  | false => simp only [Bool.false_eq_true, if_false, if_true]; rw [iI_nat, iI_nat, iI_sub]
theorem bends_l (B : RB (L, S, Li, D, lo, hi, cn)) (C : RC (L, S, Li, D, lo, hi, cn) h) {N p f : Nat} {m : Bool} (hp : p < 2 ^ 31) (hf : f < 2 ^ 31) : ∀ n i, i ≤ L → L < n + i → F_X7_bends_b6 N n (nI p) (nI f) (if m then 1 else 0) (iI (isum (rterm S lo hi cn p f m) i)) (nI i) h = some (iI (isum (rterm S lo hi cn p f m) L), h) := by
  intro n
  induction n with
  | zero => intro i h1 h2; omega
  | succ n ih =>
    intro i h1 h2
    have b1 : L ≤ 40 := B.1
    unfold F_X7_bends_b6
    rw [C.1]
    by_cases g : i = L
    · subst g
      rw [if_pos (nI_le (Nat.le_refl _) (by omega))]
    · rw [if_neg (nI_ge (by omega) (by omega)), passes_x B C (by omega) hp, bI_s]
      have e : nI i + 1 = nI (i + 1) := nI_1 i
      have k := ih (i + 1) (by omega) (by omega)
      unfold isum rterm at k
      by_cases g1 : rpass lo hi i p = true
      · rw [g1, if_pos rfl] at k
        rw [g1, if_pos rfl, if_neg (by decide), passes_x B C (by omega) hf, bI_s]
        have e2 : ((if rpass lo hi i f = true then (1 : Int32) else 0) = (if m = true then 1 else 0)) ↔ rpass lo hi i f = m := by
          cases rpass lo hi i f <;> cases m <;> decide
        by_cases g2 : rpass lo hi i f = m
        · rw [if_pos g2] at k
          rw [if_pos (e2.mpr g2)]
          have t := trueNumber_x B C (show i < L by omega) true
          unfold F_X7_bends_b46 F_X7_bends_b52
          rw [if_pos rfl, if_pos rfl] at t
          rw [t, bI_s, ib_e, ib_e, iI_add, e]
          exact k
        · rw [if_neg g2] at k
          rw [if_neg (fun q => g2 (e2.mp q))]
          have t := trueNumber_x B C (show i < L by omega) false
          unfold F_X7_bends_b46 F_X7_bends_b52
          rw [if_neg (by decide), if_neg (by decide)] at t
          rw [t, bI_s, ib_e, ib_e, iI_add, e]
          exact k
      · rw [if_neg g1, Int.add_zero] at k
        rw [if_neg g1, if_pos rfl]
        unfold F_X7_bends_b52
        rw [ib_e, e]
        exact k
def rbd (L S : Nat) (lo hi cn : Nat → Nat) (p f : Nat) (m : Bool) : Int := isum (rterm S lo hi cn p f m) L
theorem rbd_b (B : RB (L, S, Li, D, lo, hi, cn)) {p f : Nat} {m : Bool} : -800000 ≤ rbd L S lo hi cn p f m ∧ rbd L S lo hi cn p f m ≤ 800000 := by
  obtain ⟨b1, b2, b3, b4, b5, b6, b7⟩ := B
  have := isum_le (t := rterm S lo hi cn p f m) (b := 20000) L (fun k hk => rterm_b b2 (b7 k hk).2.2.2)
  unfold rbd
  omega
theorem bends_x (B : RB (L, S, Li, D, lo, hi, cn)) (C : RC (L, S, Li, D, lo, hi, cn) h) {N p f : Nat} (m : Bool) (hN : 100 ≤ N) (hp : p < 2 ^ 31) (hf : f < 2 ^ 31) : F_X7_bends N (nI p) (nI f) (if m then 1 else 0) h = some (iI (rbd L S lo hi cn p f m), h) := by
  have b1 : L ≤ 40 := B.1
  exact bends_l B C hp hf N 0 (by omega) (by omega)
theorem leads_l (B : RB (L, S, Li, D, lo, hi, cn)) (C : RC (L, S, Li, D, lo, hi, cn) h) {N s F : Nat} {m : Bool} {own : Int} (hN : 100 ≤ N) (hs : s < 2 ^ 31) (hF : F ≤ 6) (ho : -800000 ≤ own ∧ own ≤ 800000) : ∀ n i, i ≤ F → F < n + i → F_X7_leads_b12 N n (nI s) (nI F) (if m then 1 else 0) (iI own) (nI i) h = some (if ∀ u, i ≤ u → u < F → rbd L S lo hi cn u s m ≤ own then 1 else 0, h) := by
  intro n
  induction n with
  | zero => intro i h1 h2; omega
  | succ n ih =>
    intro i h1 h2
    unfold F_X7_leads_b12
    by_cases g : i = F
    · subst g
      rw [if_pos (nI_le (Nat.le_refl _) (by omega)), if_pos (fun u a b => by omega)]
    · rw [if_neg (nI_ge (by omega) (by omega)), bends_x B C m hN (by omega) hs, bI_s]
      have bb := rbd_b B (p := i) (f := s) (m := m)
      by_cases g1 : rbd L S lo hi cn i s m ≤ own
      · rw [if_pos ((iI_le (by omega) (by omega) (by omega) (by omega)).mpr g1), ib_e, nI_1, ih (i + 1) (by omega) (by omega)]
        have : (∀ u, i + 1 ≤ u → u < F → rbd L S lo hi cn u s m ≤ own) ↔ (∀ u, i ≤ u → u < F → rbd L S lo hi cn u s m ≤ own) := by
          constructor
          · intro q u a b
            by_cases g2 : u = i
            · rw [g2]; exact g1
            · exact q u (by omega) b
          · intro q u a b
            exact q u (by omega) b
        by_cases g3 : ∀ u, i ≤ u → u < F → rbd L S lo hi cn u s m ≤ own
        · rw [if_pos g3, if_pos (this.mpr g3)]
        · rw [if_neg g3, if_neg (fun q => g3 (this.mp q))]
      · rw [if_neg (fun q => g1 ((iI_le (by omega) (by omega) (by omega) (by omega)).mp q)), if_neg (fun q => g1 (q i (by omega) (by omega)))]
def rlead (L S : Nat) (lo hi cn : Nat → Nat) (F s : Nat) (m : Bool) : Bool := decide (∀ u, u < F → rbd L S lo hi cn u s m ≤ rbd L S lo hi cn s s m)
theorem leads_x (B : RB (L, S, Li, D, lo, hi, cn)) (C : RC (L, S, Li, D, lo, hi, cn) h) {N s F : Nat} (m : Bool) (hN : 100 ≤ N) (hs : s < 2 ^ 31) (hF : F ≤ 6) : F_X7_leads N (nI s) (nI F) (if m then 1 else 0) h = some (if rlead L S lo hi cn F s m then 1 else 0, h) := by
  unfold F_X7_leads
  rw [bends_x B C m hN hs hs, bI_s]
  have := leads_l B C (N := N) (s := s) (F := F) (m := m) hN hs hF (rbd_b B (p := s) (f := s) (m := m)) N 0 (by omega) (by omega)
  rw [show (0 : Int32) = nI 0 from rfl]
  rw [show (0 : Int32) = nI 0 from rfl] at this
  rw [this]
  unfold rlead
  simp
end
