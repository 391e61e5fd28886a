/-! the rope: L lines (low, high, counted), SLIP, LIFE, DAYS -/
def isum (t : Nat → Int) : Nat → Int
  | 0 => 0
  | n + 1 => isum t n + t n
theorem isum_s {t : Nat → Int} {n : Nat} : isum t (n + 1) = isum t n + t n := rfl
theorem isum_le {t : Nat → Int} {b : Int} : ∀ n, (∀ k, k < n → -b ≤ t k ∧ t k ≤ b) → -(b * n) ≤ isum t n ∧ isum t n ≤ b * n := by
  intro n
  induction n with
  | zero => intro _; simp [isum]
  | succ n ih =>
    intro h
    have h1 := ih (fun k hk => h k (by omega))
    have h2 := h n (by omega)
    have e : b * ((n + 1 : Nat) : Int) = b * n + b := by rw [Int.natCast_add, Int.mul_add]; simp
    rw [e]
    unfold isum
    omega
theorem isum_eq {t u : Nat → Int} : ∀ n, (∀ k, k < n → t k = u k) → isum t n = isum u n := by
  intro n
  induction n with
  | zero => intro _; rfl
  | succ n ih =>
    intro h
    unfold isum
    rw [ih (fun k hk => h k (by omega)), h n (by omega)]
theorem isum_sub {t u v : Nat → Int} : ∀ n, (∀ k, k < n → v k = t k - u k) → isum v n = isum t n - isum u n := by
  intro n
  induction n with
  | zero => intro _; rfl
  | succ n ih =>
    intro h
    unfold isum
    rw [ih (fun k hk => h k (by omega)), h n (by omega)]
    omega
abbrev RT : Type := Nat × Nat × Nat × Nat × (Nat → Nat) × (Nat → Nat) × (Nat → Nat)
/-- lines, SLIP, LIFE, DAYS within their bounds -/
def RB (r : RT) : Prop := match r with
  | (L, S, Li, D, lo, hi, cn) => L ≤ 40 ∧ S ≤ 50 ∧ 1 ≤ Li ∧ Li ≤ 999999 ∧ 1 ≤ D ∧ D ≤ 9999 ∧ ∀ k, k < L → lo k < 6 ∧ hi k < 6 ∧ 1 ≤ cn k ∧ cn k ≤ 9999
def RC (r : RT) (h : PH) : Prop := match r with
  | (L, S, Li, D, lo, hi, cn) => h.1 99 0 = nI L ∧ h.1 99 4 = nI S ∧ h.1 99 5 = nI Li ∧ h.1 99 6 = nI D ∧ ∀ k, k < L → h.1 100 k = nI (lo k) ∧ h.1 101 k = nI (hi k) ∧ h.1 102 k = nI (cn k)
def RN (r : RT) (h : PH) : Prop := match r with
  | (L, S, Li, D, lo, hi, cn) => h.1 103 75 = nI L ∧ h.1 103 79 = nI S ∧ h.1 103 80 = nI Li ∧ h.1 103 81 = nI D ∧ ∀ k, k < L → h.1 150 k = nI (lo k) ∧ h.1 151 k = nI (hi k) ∧ h.1 152 k = nI (cn k)
def rpass (lo hi : Nat → Nat) (k p : Nat) : Bool := decide (lo k ≤ p ∧ p < hi k)
def rslip (S : Nat) (cn : Nat → Nat) (k : Nat) : Int := ((cn k * S / 100 : Nat) : Int)
def rterm (S : Nat) (lo hi cn : Nat → Nat) (p f : Nat) (m : Bool) (k : Nat) : Int := if rpass lo hi k p then (if rpass lo hi k f = m then (cn k : Int) + rslip S cn k else (cn k : Int) - rslip S cn k) else 0
theorem rslip_b {S : Nat} {cn : Nat → Nat} {k : Nat} (hS : S ≤ 50) (hc : cn k ≤ 9999) : 0 ≤ rslip S cn k ∧ rslip S cn k ≤ 4999 := by
  unfold rslip
  have : cn k * S ≤ 9999 * 50 := Nat.mul_le_mul hc hS
  omega
theorem rterm_b {S : Nat} {lo hi cn : Nat → Nat} {p f : Nat} {m : Bool} {k : Nat} (hS : S ≤ 50) (hc : cn k ≤ 9999) : -20000 ≤ rterm S lo hi cn p f m k ∧ rterm S lo hi cn p f m k ≤ 20000 := by
  have := rslip_b (k := k) hS hc
  unfold rterm
  split
  · split <;> omega
  · omega
section
variable {L S Li D : Nat} {lo hi cn : Nat → Nat} {h : PH}
theorem passes_x (B : RB (L, S, Li, D, lo, hi, cn)) (C : RC (L, S, Li, D, lo, hi, cn) h) {i p : Nat} (hi' : i < L) (hp : p < 2 ^ 31) : F_X7_passes (nI i) (nI p) h = some (if rpass lo hi i p then 1 else 0, h) := by
  obtain ⟨b1, b2, b3, b4, b5, b6, b7⟩ := B
  obtain ⟨c1, c2, c3, c4, c5⟩ := C
  obtain ⟨d1, d2, d3⟩ := c5 i hi'
  obtain ⟨f1, f2, f3⟩ := b7 i hi'
  have e : (nI i).toNatClampNeg = i := nI_clamp (by omega)
  unfold F_X7_passes F_X7_passes_b24
  rw [if_pos (nI_in0 (by omega) (by omega)), e, d1, d2]
  unfold rpass
  by_cases g1 : p < lo i
  · rw [if_pos (nI_lt g1 (by omega)), if_neg (by simp; omega)]
  · rw [if_neg (nI_nlt (by omega) (by omega))]
    rw [if_pos (nI_in0 (by omega) (by omega))]
    by_cases g2 : hi i ≤ p
    · rw [if_pos (nI_le g2 (by omega)), if_neg (by simp; omega)]
    · rw [if_neg (nI_ge (by omega) (by omega)), if_pos (by simp; omega)]
theorem trueNumber_x (B : RB (L, S, Li, D, lo, hi, cn)) (C : RC (L, S, Li, D, lo, hi, cn) h) {i : Nat} (hi' : i < L) (m : Bool) : F_X7_trueNumber (nI i) (if m then 1 else 0) h = some (iI (if m then (cn i : Int) + rslip S cn i else (cn i : Int) - rslip S cn i), h) := by
  obtain ⟨b1, b2, b3, b4, b5, b6, b7⟩ := B
  obtain ⟨c1, c2, c3, c4, c5⟩ := C
  obtain ⟨d1, d2, d3⟩ := c5 i hi'
  obtain ⟨f1, f2, f3⟩ := b7 i hi'
  have e : (nI i).toNatClampNeg = i := nI_clamp (by omega)
  have hm : cn i * S ≤ 9999 * 50 := Nat.mul_le_mul f3.2 b2
  unfold F_X7_trueNumber
  rw [if_pos (nI_in0 (by omega) (by omega)), e, d3, c2, pk_mul, show (100 : Int32) = nI 100 from rfl, pk_div (by omega) (by omega) (by omega)]
  unfold ib rslip
  cases m with
  | true => simp only [if_true]; rw [if_neg (by decide), if_pos (nI_in0 (by omega) (by omega)), iI_nat (cn i), iI_nat, iI_add]
  | false => simp only [Bool.false_eq_true, if_false, if_true]; rw [if_pos (nI_in0 (by omega) (by omega)), iI_nat (cn i), iI_nat, iI_sub]
theorem bends_l (B : RB (L, S, Li, D, lo, hi, cn)) (C : RC (L, S, Li, D, lo, hi, cn) h) {N p f : Nat} {m : Bool} (hp : p < 2 ^ 31) (hf : f < 2 ^ 31) : ∀ n i, i ≤ L → L < n + i → F_X7_bends_b6 N n (nI p) (nI f) (if m then 1 else 0) (iI (isum (rterm S lo hi cn p f m) i)) (nI i) h = some (iI (isum (rterm S lo hi cn p f m) L), h) := by
  intro n
  induction n with
  | zero => intro i h1 h2; omega
  | succ n ih =>
    intro i h1 h2
    have b1 : L ≤ 40 := B.1
    unfold F_X7_bends_b6
    rw [C.1]
    by_cases g : i = L
    · subst g
      rw [if_pos (nI_le (Nat.le_refl _) (by omega))]
    · rw [if_neg (nI_ge (by omega) (by omega)), passes_x B C (by omega) hp, bI_s]
      have e : nI i + 1 = nI (i + 1) := nI_1 i
      have k := ih (i + 1) (by omega) (by omega)
      rw [isum_s, show rterm S lo hi cn p f m i = if rpass lo hi i p then (if rpass lo hi i f = m then (cn i : Int) + rslip S cn i else (cn i : Int) - rslip S cn i) else 0 from rfl] at k
      by_cases g1 : rpass lo hi i p = true
      · rw [g1, if_pos rfl] at k
        rw [g1, if_pos rfl, if_neg (by decide), passes_x B C (by omega) hf, bI_s]
        have e2 : ((if rpass lo hi i f = true then (1 : Int32) else 0) = (if m = true then 1 else 0)) ↔ rpass lo hi i f = m := by
          cases rpass lo hi i f <;> cases m <;> decide
        by_cases g2 : rpass lo hi i f = m
        · rw [if_pos g2] at k
          rw [if_pos (e2.mpr g2)]
          have t := trueNumber_x B C (show i < L by omega) true
          unfold F_X7_bends_b46 F_X7_bends_b52
          rw [if_pos rfl, if_pos rfl] at t
          rw [t, bI_s, ib_e, ib_e, iI_add, e]
          exact k
        · rw [if_neg g2] at k
          rw [if_neg (fun q => g2 (e2.mp q))]
          have t := trueNumber_x B C (show i < L by omega) false
          unfold F_X7_bends_b46 F_X7_bends_b52
          rw [if_neg (by decide), if_neg (by decide)] at t
          rw [t, bI_s, ib_e, ib_e, iI_add, e]
          exact k
      · rw [if_neg g1, Int.add_zero] at k
        rw [if_neg g1, if_pos rfl]
        unfold F_X7_bends_b52
        rw [ib_e, e]
        exact k
def rbd (L S : Nat) (lo hi cn : Nat → Nat) (p f : Nat) (m : Bool) : Int := isum (rterm S lo hi cn p f m) L
theorem rbd_b (B : RB (L, S, Li, D, lo, hi, cn)) {p f : Nat} {m : Bool} : -800000 ≤ rbd L S lo hi cn p f m ∧ rbd L S lo hi cn p f m ≤ 800000 := by
  obtain ⟨b1, b2, b3, b4, b5, b6, b7⟩ := B
  have := isum_le (t := rterm S lo hi cn p f m) (b := 20000) L (fun k hk => rterm_b b2 (b7 k hk).2.2.2)
  unfold rbd
  omega
theorem bends_x (B : RB (L, S, Li, D, lo, hi, cn)) (C : RC (L, S, Li, D, lo, hi, cn) h) {N p f : Nat} (m : Bool) (hN : 100 ≤ N) (hp : p < 2 ^ 31) (hf : f < 2 ^ 31) : F_X7_bends N (nI p) (nI f) (if m then 1 else 0) h = some (iI (rbd L S lo hi cn p f m), h) := by
  have b1 : L ≤ 40 := B.1
  exact bends_l B C hp hf N 0 (by omega) (by omega)
theorem leads_l (B : RB (L, S, Li, D, lo, hi, cn)) (C : RC (L, S, Li, D, lo, hi, cn) h) {N s F : Nat} {m : Bool} {own : Int} (hN : 100 ≤ N) (hs : s < 2 ^ 31) (hF : F ≤ 6) (ho : -800000 ≤ own ∧ own ≤ 800000) : ∀ n i, i ≤ F → F < n + i → F_X7_leads_b12 N n (nI s) (nI F) (if m then 1 else 0) (iI own) (nI i) h = some (if ∀ u, u < F → i ≤ u → rbd L S lo hi cn u s m ≤ own then 1 else 0, h) := by
  intro n
  induction n with
  | zero => intro i h1 h2; omega
  | succ n ih =>
    intro i h1 h2
    unfold F_X7_leads_b12
    by_cases g : i = F
    · subst g
      rw [if_pos (nI_le (Nat.le_refl _) (by omega)), if_pos (fun u a b => by omega)]
    · rw [if_neg (nI_ge (by omega) (by omega)), bends_x B C m hN (by omega) hs, bI_s]
      have bb := rbd_b B (p := i) (f := s) (m := m)
      by_cases g1 : rbd L S lo hi cn i s m ≤ own
      · rw [if_pos ((iI_le (by omega) (by omega) (by omega) (by omega)).mpr g1), ib_e, nI_1, ih (i + 1) (by omega) (by omega)]
        have : (∀ u, u < F → i + 1 ≤ u → rbd L S lo hi cn u s m ≤ own) ↔ (∀ u, u < F → i ≤ u → rbd L S lo hi cn u s m ≤ own) := by
          constructor
          · intro q u a b
            by_cases g2 : u = i
            · rw [g2]; exact g1
            · exact q u a (by omega)
          · intro q u a b
            exact q u a (by omega)
        by_cases g3 : ∀ u, u < F → i ≤ u → rbd L S lo hi cn u s m ≤ own
        · rw [if_pos g3, if_pos (this.mpr g3)]
        · rw [if_neg g3, if_neg (fun q => g3 (this.mp q))]
      · rw [if_neg (fun q => g1 ((iI_le (by omega) (by omega) (by omega) (by omega)).mp q)), if_neg (fun q => g1 (q i (by omega) (by omega)))]
def rlead (L S : Nat) (lo hi cn : Nat → Nat) (F s : Nat) (m : Bool) : Bool := decide (∀ u, u < F → rbd L S lo hi cn u s m ≤ rbd L S lo hi cn s s m)
theorem leads_x (B : RB (L, S, Li, D, lo, hi, cn)) (C : RC (L, S, Li, D, lo, hi, cn) h) {N s F : Nat} (m : Bool) (hN : 100 ≤ N) (hs : s < 2 ^ 31) (hF : F ≤ 6) : F_X7_leads N (nI s) (nI F) (if m then 1 else 0) h = some (if rlead L S lo hi cn F s m then 1 else 0, h) := by
  unfold F_X7_leads
  rw [bends_x B C m hN hs hs, bI_s]
  have := leads_l B C (N := N) (s := s) (F := F) (m := m) hN hs hF (rbd_b B (p := s) (f := s) (m := m)) N 0 (by omega) (by omega)
  rw [show F_X7_leads_b12 N N (nI s) (nI F) (if m then 1 else 0) (iI (rbd L S lo hi cn s s m)) 0 h = _ from this]
  unfold rlead
  simp
/-! the reference's rope -/
theorem bendsM_x (B : RB (L, S, Li, D, lo, hi, cn)) (C : RN (L, S, Li, D, lo, hi, cn) h) {i p : Nat} (hi' : i < L) (hp : p < 2 ^ 31) : F_X12_bends (nI i) (nI p) h = some (if rpass lo hi i p then 1 else 0, h) := by
  obtain ⟨b1, b2, b3, b4, b5, b6, b7⟩ := B
  obtain ⟨c1, c2, c3, c4, c5⟩ := C
  obtain ⟨d1, d2, d3⟩ := c5 i hi'
  obtain ⟨f1, f2, f3⟩ := b7 i hi'
  have e : (nI i).toNatClampNeg = i := nI_clamp (by omega)
  unfold F_X12_bends F_X12_bends_b24
  rw [if_pos (nI_in0 (by omega) (by omega)), e, d1, d2]
  unfold rpass
  by_cases g1 : p < lo i
  · rw [if_pos (nI_lt g1 (by omega)), if_neg (by simp; omega)]
  · rw [if_neg (nI_nlt (by omega) (by omega))]
    rw [if_pos (nI_in0 (by omega) (by omega))]
    by_cases g2 : hi i ≤ p
    · rw [if_pos (nI_le g2 (by omega)), if_neg (by simp; omega)]
    · rw [if_neg (nI_ge (by omega) (by omega)), if_pos (by simp; omega)]
theorem trueOf_x (B : RB (L, S, Li, D, lo, hi, cn)) (C : RN (L, S, Li, D, lo, hi, cn) h) {i : Nat} (hi' : i < L) (w : Int) : F_X12_trueOf (nI i) (iI w) h = some (iI ((cn i : Int) + w * rslip S cn i), h) := by
  obtain ⟨b1, b2, b3, b4, b5, b6, b7⟩ := B
  obtain ⟨c1, c2, c3, c4, c5⟩ := C
  obtain ⟨d1, d2, d3⟩ := c5 i hi'
  obtain ⟨f1, f2, f3⟩ := b7 i hi'
  have e : (nI i).toNatClampNeg = i := nI_clamp (by omega)
  have hm : cn i * S ≤ 9999 * 50 := Nat.mul_le_mul f3.2 b2
  unfold F_X12_trueOf
  rw [if_pos (nI_in0 (by omega) (by omega)), e, d3, c2, pk_mul, show (100 : Int32) = nI 100 from rfl, pk_div (by omega) (by omega) (by omega)]
  unfold rslip
  rw [iI_nat (cn i), iI_nat, iI_mul, iI_add]
theorem bendsOf_l (B : RB (L, S, Li, D, lo, hi, cn)) (C : RN (L, S, Li, D, lo, hi, cn) h) {N p : Nat} {m : Bool} (hp : p < 2 ^ 31) : ∀ n i, i ≤ L → L < n + i → F_X12_bendsOf_b5 N n (nI p) (iI (if m then 1 else -1)) (iI (isum (rterm S lo hi cn p p m) i)) (nI i) h = some (iI (isum (rterm S lo hi cn p p m) L), h) := by
  intro n
  induction n with
  | zero => intro i h1 h2; omega
  | succ n ih =>
    intro i h1 h2
    have b1 : L ≤ 40 := B.1
    unfold F_X12_bendsOf_b5
    rw [C.1]
    by_cases g : i = L
    · subst g
      rw [if_pos (nI_le (Nat.le_refl _) (by omega))]
    · rw [if_neg (nI_ge (by omega) (by omega)), bendsM_x B C (by omega) hp, bI_s]
      have e : nI i + 1 = nI (i + 1) := nI_1 i
      have k := ih (i + 1) (by omega) (by omega)
      rw [isum_s, show rterm S lo hi cn p p m i = if rpass lo hi i p then (if rpass lo hi i p = m then (cn i : Int) + rslip S cn i else (cn i : Int) - rslip S cn i) else 0 from rfl] at k
      by_cases g1 : rpass lo hi i p = true
      · rw [g1, if_pos rfl] at k
        rw [g1, if_pos rfl, if_neg (by decide), trueOf_x B C (by omega), bI_s]
        unfold F_X12_bendsOf_b36
        rw [ib_e, ib_e, iI_add, e]
        have e2 : (cn i : Int) + (if m = true then 1 else -1) * rslip S cn i = (if true = m then (cn i : Int) + rslip S cn i else (cn i : Int) - rslip S cn i) := by
          cases m <;> simp <;> omega
        rw [e2]
        exact k
      · rw [if_neg g1] at k
        rw [if_neg g1, if_pos rfl]
        unfold F_X12_bendsOf_b36
        rw [ib_e, ib_e, e, show (0 : Int32) = iI 0 from rfl, iI_add]
        exact k
theorem bendsOf_x (B : RB (L, S, Li, D, lo, hi, cn)) (C : RN (L, S, Li, D, lo, hi, cn) h) {N p : Nat} (m : Bool) (hN : 100 ≤ N) (hp : p < 2 ^ 31) : F_X12_bendsOf N (nI p) (iI (if m then 1 else -1)) h = some (iI (rbd L S lo hi cn p p m), h) := by
  have b1 : L ≤ 40 := B.1
  exact bendsOf_l B C hp N 0 (by omega) (by omega)
def rmore (S : Nat) (lo hi cn : Nat → Nat) (s u : Nat) (w : Int) (k : Nat) : Int := (if rpass lo hi k s = true ∧ rpass lo hi k u = false then (cn k : Int) + w * rslip S cn k else 0) - (if rpass lo hi k u = true ∧ rpass lo hi k s = false then (cn k : Int) + -w * rslip S cn k else 0)
theorem firstM_65 (B : RB (L, S, Li, D, lo, hi, cn)) (C : RN (L, S, Li, D, lo, hi, cn) h) {N s u : Nat} {w : Int} {x3 x5 : Int32} {rc31 : Int32 → Int32 → Int32 → PH → Option (Int32 × PH)} {rc48 : Int32 → Int32 → Int32 → Int32 → Int32 → PH → Option (Int32 × PH)} (hs : s < 2 ^ 31) (hu : u < 2 ^ 31) : ∀ n i, i ≤ L → L < n + i → F_X12_first_b65 N rc31 rc48 n (iI w) x3 (nI s) x5 (nI u) (iI (isum (rmore S lo hi cn s u w) i)) (nI i) h = F_X12_first_b149 N rc31 rc48 (iI w) x3 (nI s) x5 (nI u) (iI (isum (rmore S lo hi cn s u w) L)) h := by
  intro n
  induction n with
  | zero => intro i h1 h2; omega
  | succ n ih =>
    intro i h1 h2
    have b1 : L ≤ 40 := B.1
    unfold F_X12_first_b65
    rw [C.1]
    by_cases g : i = L
    · subst g
      rw [if_pos (nI_le (Nat.le_refl _) (by omega))]
    · rw [if_neg (nI_ge (by omega) (by omega)), bendsM_x B C (by omega) hs, bI_s]
      have e : nI i + 1 = nI (i + 1) := nI_1 i
      have k := ih (i + 1) (by omega) (by omega)
      rw [isum_s, show rmore S lo hi cn s u w i = (if rpass lo hi i s = true ∧ rpass lo hi i u = false then (cn i : Int) + w * rslip S cn i else 0) - (if rpass lo hi i u = true ∧ rpass lo hi i s = false then (cn i : Int) + -w * rslip S cn i else 0) from rfl] at k
      have ps := bendsM_x B C (show i < L by omega) hs
      have pu := bendsM_x B C (show i < L by omega) hu
      unfold F_X12_first_b108 F_X12_first_b143
      have tw := trueOf_x B C (show i < L by omega) w
      have tn := trueOf_x B C (show i < L by omega) (-w)
      simp only [pu, ps, tw, tn, iI_neg, bI_s, ib_e, e]
      cases g1 : rpass lo hi i s <;> cases g2 : rpass lo hi i u <;> rw [g1, g2] at k <;> simp [iI_add, iI_sub] at k ⊢
      · exact k
      · rw [← k]; congr 2
      · exact k
      · exact k
theorem firstM_48 (B : RB (L, S, Li, D, lo, hi, cn)) (C : RN (L, S, Li, D, lo, hi, cn) h) {N F s : Nat} (HF : HM F h) (hF1 : 1 ≤ F) (hF : F ≤ 6) {w : Int} (hw : w = 1 ∨ w = -1) {x3 : Int32} {rc31 : Int32 → Int32 → Int32 → PH → Option (Int32 × PH)} (hN : 100 ≤ N) (hs : s < 2 ^ 31) : ∀ n u (b : Bool), u ≤ F - 1 → F - 1 < n + u → F_X12_first_b48 N rc31 n (iI w) x3 (nI s) (if b then 1 else 0) (nI u) h = F_X12_first_b172 N rc31 (iI w) x3 (nI s) (if b = true ∧ ∀ v, v < F - 1 → u ≤ v → 0 ≤ isum (rmore S lo hi cn s v w) L then 1 else 0) h := by
  intro n
  induction n with
  | zero => intro u b h1 h2; omega
  | succ n ih =>
    intro u b h1 h2
    have b1 : L ≤ 40 := B.1
    unfold F_X12_first_b48
    rw [HF, nI_m1 hF1]
    by_cases g : u = F - 1
    · subst g
      rw [if_pos (nI_le (Nat.le_refl _) (by omega))]
      congr 1
      cases b with
      | true => rw [if_pos rfl, if_pos ⟨rfl, fun v a c => by omega⟩]
      | false => rw [if_neg (by decide), if_neg (fun q => by cases q.1)]
    · rw [if_neg (nI_ge (by omega) (by omega))]
      have k := firstM_65 B C (N := N) (s := s) (u := u) (w := w) (x3 := x3) (x5 := if b then 1 else 0) (rc31 := rc31) (rc48 := F_X12_first_b48 N rc31 n) hs (by omega) N 0 (by omega) (by omega)
      rw [show F_X12_first_b65 N rc31 (F_X12_first_b48 N rc31 n) N (iI w) x3 (nI s) (if b then 1 else 0) (nI u) 0 0 h = _ from k]
      have bb : ∀ k, k < L → -40000 ≤ rmore S lo hi cn s u w k ∧ rmore S lo hi cn s u w k ≤ 40000 := by
        intro k hk
        obtain ⟨b1, b2, b3, b4, b5, b6, b7⟩ := B
        have := rslip_b (k := k) b2 (b7 k hk).2.2.2
        have := (b7 k hk).2.2.2
        unfold rmore
        rcases hw with rfl | rfl <;> split <;> split <;> omega
      have b2 := isum_le (t := rmore S lo hi cn s u w) (b := 40000) L bb
      unfold F_X12_first_b149 F_X12_first_b163 F_X12_first_b164
      simp only [ib_e, nI_1]
      have key : (∀ v, v < F - 1 → u ≤ v → 0 ≤ isum (rmore S lo hi cn s v w) L) ↔ 0 ≤ isum (rmore S lo hi cn s u w) L ∧ (∀ v, v < F - 1 → u + 1 ≤ v → 0 ≤ isum (rmore S lo hi cn s v w) L) := by
        constructor
        · intro q
          exact ⟨q u (by omega) (by omega), fun v a c => q v a (by omega)⟩
        · rintro ⟨q1, q2⟩ v a c
          by_cases g2 : v = u
          · rw [g2]; exact q1
          · exact q2 v a (by omega)
      have k2 := ih (u + 1) true (by omega) (by omega)
      have k3 := ih (u + 1) false (by omega) (by omega)
      simp only [key]
      simp at k2 k3
      cases b with
      | false =>
        simp
        exact k3
      | true =>
        simp
        by_cases g3 : isum (rmore S lo hi cn s u w) L < 0
        · rw [if_pos ((iI_lt0 (by omega) (by omega)).mpr g3), k3, if_neg (by omega)]
        · rw [if_neg (fun q => g3 ((iI_lt0 (by omega) (by omega)).mp q)), k2]
          congr 1
          have : 0 ≤ isum (rmore S lo hi cn s u w) L := by omega
          simp [this]
def orb (f : Nat → Bool) : Nat → Nat → Int32 → Int32
  | _, 0, a => a
  | s, k + 1, a => orb f (s + 1) k (if f s then a ||| ((1 : Int32) <<< (nI s &&& 31)) else a)
theorem orb_eq {f g : Nat → Bool} : ∀ k s a, (∀ j, s ≤ j → j < s + k → f j = g j) → orb f s k a = orb g s k a := by
  intro k
  induction k with
  | zero => intro s a _; rfl
  | succ k ih =>
    intro s a e
    unfold orb
    rw [e s (by omega) (by omega), ih (s + 1) _ (fun j h1 h2 => e j (by omega) (by omega))]
theorem firstM_31 (B : RB (L, S, Li, D, lo, hi, cn)) (C : RN (L, S, Li, D, lo, hi, cn) h) {N F : Nat} (HF : HM F h) (hF1 : 1 ≤ F) (hF : F ≤ 6) {w : Int} (hw : w = 1 ∨ w = -1) (hN : 100 ≤ N) : ∀ n s a, s ≤ F - 1 → F - 1 < n + s → F_X12_first_b31 N n (iI w) a (nI s) h = some (orb (fun s => decide (∀ v, v < F - 1 → 0 ≤ isum (rmore S lo hi cn s v w) L)) s (F - 1 - s) a, h) := by
  intro n
  induction n with
  | zero => intro u b h1 h2; omega
  | succ n ih =>
    intro s a h1 h2
    unfold F_X12_first_b31
    rw [HF, nI_m1 hF1]
    by_cases g : s = F - 1
    · subst g
      rw [if_pos (nI_le (Nat.le_refl _) (by omega)), Nat.sub_self]
      rfl
    · rw [if_neg (nI_ge (by omega) (by omega))]
      have k := firstM_48 B C (N := N) (s := s) (x3 := a) (rc31 := F_X12_first_b31 N n) HF hF1 hF hw hN (by omega) N 0 true (by omega) (by omega)
      rw [show F_X12_first_b48 N (F_X12_first_b31 N n) N (iI w) a (nI s) 1 0 h = _ from k]
      unfold F_X12_first_b172 F_X12_first_b186
      simp only [ib_e, nI_1]
      rw [show F - 1 - s = (F - 1 - (s + 1)) + 1 by omega, orb]
      rw [← ih (s + 1) _ (by omega) (by omega)]
      by_cases g2 : ∀ v, v < F - 1 → 0 ≤ isum (rmore S lo hi cn s v w) L
      · have g3 : ∀ v, v < F - 1 → 0 ≤ v → 0 ≤ isum (rmore S lo hi cn s v w) L := fun v a _ => g2 v a
        have q1 : (True ∧ ∀ v, v < F - 1 → 0 ≤ v → 0 ≤ isum (rmore S lo hi cn s v w) L) := ⟨trivial, g3⟩
        rw [if_pos q1, if_neg (by decide), if_pos (decide_eq_true g2)]
      · have g3 : ¬ ∀ v, v < F - 1 → 0 ≤ v → 0 ≤ isum (rmore S lo hi cn s v w) L := fun q => g2 (fun v a => q v a (by omega))
        have q1 : ¬ (True ∧ ∀ v, v < F - 1 → 0 ≤ v → 0 ≤ isum (rmore S lo hi cn s v w) L) := fun q => g3 q.2
        rw [if_neg q1, if_pos rfl, if_neg (fun q => g2 (of_decide_eq_true q)), Int32.or_zero]
theorem firstC_15 (B : RB (L, S, Li, D, lo, hi, cn)) (C : RC (L, S, Li, D, lo, hi, cn) h) {N F : Nat} (HF : HC F h) (hF1 : 1 ≤ F) (hF : F ≤ 6) {x1 : Int32} {m : Bool} (hx : m = decide (x1 = 0)) (hN : 100 ≤ N) : ∀ n s a, s ≤ F - 1 → F - 1 < n + s → F_X11_first_b15 N n x1 a (nI s) h = some (orb (fun s => rlead L S lo hi cn (F - 1) s m) s (F - 1 - s) a, h) := by
  intro n
  induction n with
  | zero => intro u b h1 h2; omega
  | succ n ih =>
    intro s a h1 h2
    unfold F_X11_first_b15
    rw [HF, nI_m1 hF1]
    by_cases g : s = F - 1
    · subst g
      rw [if_pos (nI_le (Nat.le_refl _) (by omega)), Nat.sub_self]
      rfl
    · rw [if_neg (nI_ge (by omega) (by omega))]
      rw [show F - 1 - s = (F - 1 - (s + 1)) + 1 by omega, orb]
      rw [← ih (s + 1) _ (by omega) (by omega)]
      unfold F_X11_first_b51 F_X11_first_b63
      have k := leads_x B C (N := N) (s := s) (F := F - 1) m hN (by omega) (by omega)
      by_cases g1 : x1 = 0
      · subst g1
        simp at hx
        subst hx
        rw [if_pos rfl] at k
        rw [if_pos rfl, k, bI_s]
        simp only [ib_e, nI_1]
        cases rlead L S lo hi cn (F - 1) s true <;> simp
      · simp [g1] at hx
        subst hx
        rw [if_neg (by decide)] at k
        rw [if_neg g1, k, bI_s]
        simp only [ib_e, nI_1]
        cases rlead L S lo hi cn (F - 1) s false <;> simp
theorem rlead_eq {F s : Nat} (m : Bool) : rlead L S lo hi cn F s m = decide (∀ v, v < F → 0 ≤ isum (rmore S lo hi cn s v (if m then 1 else -1)) L) := by
  unfold rlead
  have : ∀ v, isum (rmore S lo hi cn s v (if m then 1 else -1)) L = rbd L S lo hi cn s s m - rbd L S lo hi cn v s m := by
    intro v
    unfold rbd
    apply isum_sub
    intro k _
    unfold rmore rterm
    cases m <;> cases rpass lo hi k s <;> cases rpass lo hi k v <;> simp <;> omega
  simp only [this]
  congr 1
  apply propext
  constructor
  · intro q v a
    have := q v a
    omega
  · intro q v a
    have := q v a
    omega
end
