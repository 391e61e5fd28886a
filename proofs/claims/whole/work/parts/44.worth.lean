/-! the reference's evaluator -/
def sV (h : PH) (d : Nat) : Int32 := if h.1 119 d = 21 then h.1 118 d - h.1 120 d else h.1 118 d + h.1 120 d
def tV (h : PH) (d : Nat) : Int32 := if h.1 117 d = 24 then (if h.1 116 d < sV h d then 1 else 0) else if h.1 117 d = 25 then (if h.1 116 d = sV h d then 1 else 0) else sV h d
def aV (h : PH) (d : Nat) : Int32 := if h.1 115 d = 26 then (if h.1 114 d ≠ 0 ∧ tV h d ≠ 0 then 1 else 0) else if h.1 115 d = 27 then (if h.1 114 d ≠ 0 ∨ tV h d ≠ 0 then 1 else 0) else tV h d
def hOp (d : Nat) (h : PH) : PH := hs (hs (hs (hs (hs h 115 d 0) 117 d 0) 118 d 0) 119 d 20) 121 d 0
def hSu (d : Nat) (h : PH) : PH := hs (hs h 118 d (sV h d)) 121 d 0
def hHo (d : Nat) (h : PH) : PH := hs (hs (hs (hs (hSu d h) 114 d (aV h d)) 117 d 0) 118 d 0) 119 d 20
section
variable {N fu l d k c : Nat} {h : PH}
theorem opens_x (hd : d < 7) : F_X12_opens (nI d) h = some (hOp d h) := by
  unfold F_X12_opens
  rw [if_pos (nI_in0 hd (by omega)), nI_clamp (by omega)]
  rfl
theorem sums_x (hd : d < 7) : F_X12_sums (nI d) h = some (hSu d h) := by
  unfold F_X12_sums F_X12_sums_b45 hSu sV
  simp only [nI_in0 hd (by omega : 7 < 2 ^ 31), if_true, nI_clamp (show d < 2 ^ 31 by omega), hb_e]
  by_cases g : h.1 119 d = 21
  · rw [if_pos g, if_pos g]
  · rw [if_neg g, if_neg g]
theorem holds_x (hd : d < 7) : F_X12_holds (nI d) h = some (hHo d h) := by
  unfold F_X12_holds
  rw [sums_x hd, bV_s]
  have e15 : (hSu d h).1 115 d = h.1 115 d := by unfold hSu; simp [hs_1]
  have e14 : (hSu d h).1 114 d = h.1 114 d := by unfold hSu; simp [hs_1]
  have e16 : (hSu d h).1 116 d = h.1 116 d := by unfold hSu; simp [hs_1]
  have e17 : (hSu d h).1 117 d = h.1 117 d := by unfold hSu; simp [hs_1]
  have e18 : (hSu d h).1 118 d = sV h d := by unfold hSu; simp [hs_1]
  unfold F_X12_holds_b43 F_X12_holds_b44 F_X12_holds_b75 F_X12_holds_b76 F_X12_holds_b104 F_X12_holds_b105 F_X12_holds_b106 F_X12_holds_b130 F_X12_holds_b135 F_X12_holds_b136
  simp only [nI_in0 hd (by omega : 7 < 2 ^ 31), if_true, nI_clamp (show d < 2 ^ 31 by omega), hb_e, ib_e, e14, e15, e16, e17, e18]
  have key : ∀ v : Int32, (if h.1 115 d = 26 then (if h.1 114 d = 0 then (if h.1 115 d = 27 then (if h.1 114 d = 0 then (if (0 : Int32) = 0 then some (hs (hs (hs (hs (hSu d h) 114 d 0) 117 d 0) 118 d 0) 119 d 20) else some (hs (hs (hs (hs (hSu d h) 114 d 1) 117 d 0) 118 d 0) 119 d 20)) else some (hs (hs (hs (hs (hSu d h) 114 d 1) 117 d 0) 118 d 0) 119 d 20)) else some (hs (hs (hs (hs (hSu d h) 114 d 0) 117 d 0) 118 d 0) 119 d 20)) else (if v = 0 then (if h.1 115 d = 27 then (if h.1 114 d = 0 then (if (0 : Int32) = 0 then some (hs (hs (hs (hs (hSu d h) 114 d 0) 117 d 0) 118 d 0) 119 d 20) else some (hs (hs (hs (hs (hSu d h) 114 d 1) 117 d 0) 118 d 0) 119 d 20)) else some (hs (hs (hs (hs (hSu d h) 114 d 1) 117 d 0) 118 d 0) 119 d 20)) else some (hs (hs (hs (hs (hSu d h) 114 d 0) 117 d 0) 118 d 0) 119 d 20)) else (if h.1 115 d = 27 then (if h.1 114 d = 0 then (if (1 : Int32) = 0 then some (hs (hs (hs (hs (hSu d h) 114 d 0) 117 d 0) 118 d 0) 119 d 20) else some (hs (hs (hs (hs (hSu d h) 114 d 1) 117 d 0) 118 d 0) 119 d 20)) else some (hs (hs (hs (hs (hSu d h) 114 d 1) 117 d 0) 118 d 0) 119 d 20)) else some (hs (hs (hs (hs (hSu d h) 114 d 1) 117 d 0) 118 d 0) 119 d 20)))) else (if h.1 115 d = 27 then (if h.1 114 d = 0 then (if v = 0 then some (hs (hs (hs (hs (hSu d h) 114 d 0) 117 d 0) 118 d 0) 119 d 20) else some (hs (hs (hs (hs (hSu d h) 114 d 1) 117 d 0) 118 d 0) 119 d 20)) else some (hs (hs (hs (hs (hSu d h) 114 d 1) 117 d 0) 118 d 0) 119 d 20)) else some (hs (hs (hs (hs (hSu d h) 114 d v) 117 d 0) 118 d 0) 119 d 20))) = some (hs (hs (hs (hs (hSu d h) 114 d (if h.1 115 d = 26 then (if h.1 114 d ≠ 0 ∧ v ≠ 0 then 1 else 0) else if h.1 115 d = 27 then (if h.1 114 d ≠ 0 ∨ v ≠ 0 then 1 else 0) else v)) 117 d 0) 118 d 0) 119 d 20) := by
    intro v
    by_cases g1 : h.1 115 d = 26
    · have g2 : ¬ h.1 115 d = 27 := by rw [g1]; decide
      by_cases g3 : h.1 114 d = 0
      · simp [g1, g3]
      · by_cases g4 : v = 0
        · simp [g1, g3, g4]
        · simp [g1, g3, g4]
    · by_cases g2 : h.1 115 d = 27
      · by_cases g3 : h.1 114 d = 0
        · by_cases g4 : v = 0
          · simp [g2, g3, g4]
          · simp [g2, g3, g4]
        · simp [g2, g3]
      · simp [g1, g2]
  unfold hHo aV tV
  by_cases g4 : h.1 117 d = 24
  · have g5 : ¬ h.1 117 d = 25 := by rw [g4]; decide
    rw [if_pos g4]
    by_cases g6 : sV h d ≤ h.1 116 d
    · have g7 : ¬ h.1 116 d < sV h d := Int32.not_lt.mpr g6
      rw [if_pos g6, if_neg g5]
      have := key 0
      simp only [g4, g7, if_true, if_false] at this ⊢
      exact this
    · have g7 : h.1 116 d < sV h d := Int32.not_le.mp g6
      rw [if_neg g6, if_neg g5]
      have := key 1
      simp only [g4, g7, if_true, if_false] at this ⊢
      exact this
  · rw [if_neg g4]
    by_cases g5 : h.1 117 d = 25
    · rw [if_pos g5]
      by_cases g6 : h.1 116 d = sV h d
      · rw [if_pos g6]
        have := key 1
        simp only [g5, g6, if_true, if_false] at this ⊢
        exact this
      · rw [if_neg g6]
        have := key 0
        simp only [g5, g6, if_true, if_false] at this ⊢
        exact this
    · rw [if_neg g5]
      have := key (sV h d)
      simp only [g4, g5, if_true, if_false] at this ⊢
      exact this
theorem w_body {v : Int32} {kt : Nat} (hl : l < 26) (hkt : h.1 107 l = nI kt) (hk : k < kt) (hk4 : kt ≤ 4000) (hc : h.1 111 k = v) : F_X12_worth_b14 N (fu + 1) (nI l) (nI d) (nI k) h = if v = 28 then F_X12_worth_b46 N (F_X12_worth_b14 N fu) (nI l) (nI d) (nI k) v h else if v = 30 then F_X12_worth_b46 N (F_X12_worth_b14 N fu) (nI l) (nI d) (nI k) v h else if v = 20 then F_X12_worth_b89 N (F_X12_worth_b14 N fu) (nI l) (nI d) (nI k) v h else if v = 21 then F_X12_worth_b89 N (F_X12_worth_b14 N fu) (nI l) (nI d) (nI k) v h else if v = 22 then (if inb (nI d) 7 = true then hb (hs h 121 (nI d).toNatClampNeg v) (fun h18 => F_X12_worth_b336 N (F_X12_worth_b14 N fu) (nI l) (nI d) (nI k) h18) else none) else if v = 24 then F_X12_worth_b137 N (F_X12_worth_b14 N fu) (nI l) (nI d) (nI k) v h else if v = 25 then F_X12_worth_b137 N (F_X12_worth_b14 N fu) (nI l) (nI d) (nI k) v h else if v = 26 then F_X12_worth_b194 N (F_X12_worth_b14 N fu) (nI l) (nI d) (nI k) v h else if v = 27 then F_X12_worth_b194 N (F_X12_worth_b14 N fu) (nI l) (nI d) (nI k) v h else if v < 100 then (if v < 20 then F_X12_worth_b239 N (F_X12_worth_b14 N fu) (nI l) (nI d) (nI k) v h else if v < 40 then F_X12_worth_b250 N (F_X12_worth_b14 N fu) (nI l) (nI d) (nI k) v 0 h else F_X12_worth_b239 N (F_X12_worth_b14 N fu) (nI l) (nI d) (nI k) v h) else F_X12_worth_b250 N (F_X12_worth_b14 N fu) (nI l) (nI d) (nI k) v (v - 100) h := by
  rw [F_X12_worth_b14, if_pos (nI_in0 hl (by omega)), nI_clamp (show l < 2 ^ 31 by omega), hkt, if_neg (nI_ge hk (by omega)), if_pos (nI_in0 (by omega) (by omega)), nI_clamp (show k < 2 ^ 31 by omega), hc, ib_e]
theorem w_open {kt : Nat} (b : Bool) (hl : l < 26) (hkt : h.1 107 l = nI kt) (hk : k < kt) (hk4 : kt ≤ 4000) (hd : d < 6) (hc : h.1 111 k = if b then 30 else 28) : F_X12_worth_b14 N (fu + 1) (nI l) (nI d) (nI k) h = F_X12_worth_b14 N fu (nI l) (nI (d + 1)) (nI (k + 1)) (hOp (d + 1) (hs h 122 (d + 1) (if b then 1 else 0))) := by
  rw [w_body hl hkt hk hk4 hc]
  unfold F_X12_worth_b46 F_X12_worth_b66 F_X12_worth_b336
  have key : ∀ x : Int32, (if inb (nI (d + 1)) 7 = true then hb (hs h 122 (nI (d + 1)).toNatClampNeg x) fun h2 => bV (F_X12_opens (nI (d + 1)) h2) fun h4 => ib (nI k + 1) fun v1 => F_X12_worth_b14 N fu (nI l) (nI (d + 1)) v1 h4 else none) = F_X12_worth_b14 N fu (nI l) (nI (d + 1)) (nI (k + 1)) (hOp (d + 1) (hs h 122 (d + 1) x)) := by
    intro x
    rw [if_pos (nI_in0 (by omega) (by omega)), nI_clamp (by omega), hb_e, opens_x (by omega), bV_s, ib_e, nI_1]
  cases b with
  | true =>
    rw [if_pos (show true = true from rfl), if_neg (show ¬ (30 : Int32) = 28 by decide), if_pos (show (30 : Int32) = 30 from rfl), ib_e, nI_1, if_pos (show (30 : Int32) = 30 from rfl), if_pos (show true = true from rfl), key]
  | false =>
    rw [if_neg (show ¬ false = true by decide), if_pos (show (28 : Int32) = 28 from rfl), ib_e, nI_1, if_neg (show ¬ (28 : Int32) = 30 by decide), if_neg (show ¬ false = true by decide), key]
theorem w_pm {kt : Nat} {c : Int32} (hl : l < 26) (hkt : h.1 107 l = nI kt) (hk : k < kt) (hk4 : kt ≤ 4000) (hd : d < 7) (hc : h.1 111 k = c) (h2 : c = 20 ∨ c = 21) : F_X12_worth_b14 N (fu + 1) (nI l) (nI d) (nI k) h = F_X12_worth_b14 N fu (nI l) (nI d) (nI (k + 1)) (hs (hSu d h) 119 d c) := by
  rw [w_body hl hkt hk hk4 hc]
  unfold F_X12_worth_b89 F_X12_worth_b336
  rcases h2 with rfl | rfl
  · rw [if_neg (by decide), if_neg (by decide), if_pos rfl, sums_x hd, bV_s, if_pos (nI_in0 hd (by omega)), nI_clamp (by omega), hb_e, ib_e, nI_1]
  · rw [if_neg (by decide), if_neg (by decide), if_neg (by decide), if_pos rfl, sums_x hd, bV_s, if_pos (nI_in0 hd (by omega)), nI_clamp (by omega), hb_e, ib_e, nI_1]
theorem w_mul {kt : Nat} (hl : l < 26) (hkt : h.1 107 l = nI kt) (hk : k < kt) (hk4 : kt ≤ 4000) (hd : d < 7) (hc : h.1 111 k = 22) : F_X12_worth_b14 N (fu + 1) (nI l) (nI d) (nI k) h = F_X12_worth_b14 N fu (nI l) (nI d) (nI (k + 1)) (hs h 121 d 22) := by
  rw [w_body hl hkt hk hk4 hc]
  unfold F_X12_worth_b336
  rw [if_neg (by decide), if_neg (by decide), if_neg (by decide), if_neg (by decide), if_pos rfl, if_pos (nI_in0 hd (by omega)), nI_clamp (by omega), hb_e, ib_e, nI_1]
def hCm (d : Nat) (c : Int32) (h : PH) : PH := hs (hs (hs (hs (hSu d h) 116 d (sV h d)) 117 d c) 118 d 0) 119 d 20
theorem w_cmp {kt : Nat} {c : Int32} (hl : l < 26) (hkt : h.1 107 l = nI kt) (hk : k < kt) (hk4 : kt ≤ 4000) (hd : d < 7) (hc : h.1 111 k = c) (h2 : c = 24 ∨ c = 25) : F_X12_worth_b14 N (fu + 1) (nI l) (nI d) (nI k) h = F_X12_worth_b14 N fu (nI l) (nI d) (nI (k + 1)) (hCm d c h) := by
  have e18 : (hSu d h).1 118 d = sV h d := by unfold hSu; simp [hs_1]
  rw [w_body hl hkt hk hk4 hc]
  unfold F_X12_worth_b137 F_X12_worth_b336 hCm
  rcases h2 with rfl | rfl
  · rw [if_neg (by decide), if_neg (by decide), if_neg (by decide), if_neg (by decide), if_neg (by decide), if_pos rfl, sums_x hd, bV_s, if_pos (nI_in0 hd (by omega)), nI_clamp (by omega), e18]
    simp only [hb_e, ib_e]
    rw [nI_1]
  · rw [if_neg (by decide), if_neg (by decide), if_neg (by decide), if_neg (by decide), if_neg (by decide), if_neg (by decide), if_pos rfl, sums_x hd, bV_s, if_pos (nI_in0 hd (by omega)), nI_clamp (by omega), e18]
    simp only [hb_e, ib_e]
    rw [nI_1]
theorem w_log {kt : Nat} {c : Int32} (hl : l < 26) (hkt : h.1 107 l = nI kt) (hk : k < kt) (hk4 : kt ≤ 4000) (hd : d < 7) (hc : h.1 111 k = c) (h2 : c = 26 ∨ c = 27) : F_X12_worth_b14 N (fu + 1) (nI l) (nI d) (nI k) h = F_X12_worth_b14 N fu (nI l) (nI d) (nI (k + 1)) (hs (hHo d h) 115 d c) := by
  rw [w_body hl hkt hk hk4 hc]
  unfold F_X12_worth_b194 F_X12_worth_b336
  rcases h2 with rfl | rfl
  · rw [if_neg (by decide), if_neg (by decide), if_neg (by decide), if_neg (by decide), if_neg (by decide), if_neg (by decide), if_neg (by decide), if_pos rfl, holds_x hd, bV_s, if_pos (nI_in0 hd (by omega)), nI_clamp (by omega), hb_e, ib_e, nI_1]
  · rw [if_neg (by decide), if_neg (by decide), if_neg (by decide), if_neg (by decide), if_neg (by decide), if_neg (by decide), if_neg (by decide), if_neg (by decide), if_pos rfl, holds_x hd, bV_s, if_pos (nI_in0 hd (by omega)), nI_clamp (by omega), hb_e, ib_e, nI_1]
/-- a value is taken: through nots, into the product -/
def popV (bn : Nat → Int32) : Nat → Int32 → Nat × Int32
  | 0, v => (0, v)
  | e + 1, v => if bn (e + 1) = 1 then popV bn e (nt v) else (e + 1, v)
def dlv (h : PH) (d : Nat) (v : Int32) : PH := hs h 120 (popV (h.1 122) d v).1 (if h.1 121 (popV (h.1 122) d v).1 = 0 then (popV (h.1 122) d v).2 else h.1 120 (popV (h.1 122) d v).1 * (popV (h.1 122) d v).2)
theorem b307_x {rc : Int32 → Int32 → Int32 → PH → Option (Int32 × PH)} {v : Int32} (hd : d < 7) : F_X12_worth_b307 N rc (nI l) (nI d) (nI k) v h = rc (nI l) (nI d) (nI (k + 1)) (hs h 120 d (if h.1 121 d = 0 then v else h.1 120 d * v)) := by
  unfold F_X12_worth_b307 F_X12_worth_b335 F_X12_worth_b336
  simp only [nI_in0 hd (by omega : 7 < 2 ^ 31), if_true, nI_clamp (show d < 2 ^ 31 by omega), hb_e, ib_e, nI_1]
  by_cases g : h.1 121 d = 0
  · rw [if_pos g, if_pos g]
  · rw [if_neg g, if_neg g]
theorem b275_x {rc : Int32 → Int32 → Int32 → PH → Option (Int32 × PH)} : ∀ d v f, d < f → d < 7 → F_X12_worth_b275 N rc f (nI l) (nI d) (nI k) v h = rc (nI l) (nI (popV (h.1 122) d v).1) (nI (k + 1)) (dlv h d v) := by
  intro d
  induction d with
  | zero =>
    intro v f hf _
    obtain ⟨f', rfl⟩ : ∃ f', f = f' + 1 := ⟨f - 1, by omega⟩
    rw [F_X12_worth_b275, if_pos (by decide), b307_x (by omega)]
    rfl
  | succ d ih =>
    intro v f hf hd
    obtain ⟨f', rfl⟩ : ∃ f', f = f' + 1 := ⟨f - 1, by omega⟩
    rw [F_X12_worth_b275, if_neg (fun z => by have := (n_le_l 0 (by omega) (by omega)).mp z; omega), if_pos (nI_in0 hd (by omega)), nI_clamp (by omega), b307_x hd]
    unfold F_X12_worth_b299
    simp only [ib_e]
    rw [pk_m1, ih 1 f' (by omega) (by omega), ih 0 f' (by omega) (by omega)]
    unfold dlv
    rw [popV]
    by_cases g : h.1 122 (d + 1) = 1
    · rw [if_pos g, if_pos g]
      unfold nt
      by_cases g2 : v = 0
      · rw [if_pos g2, if_pos g2]
      · rw [if_neg g2, if_neg g2]
    · rw [if_neg g, if_neg g]
theorem w_leaf {kt : Nat} (hN : 100 ≤ N) (hl : l < 26) (hkt : h.1 107 l = nI kt) (hk : k < kt) (hk4 : kt ≤ 4000) (hd : d < 7) {v : Int32} (hc : h.1 111 k = nI c) (h2 : (c < 20 ∧ v = h.1 123 c) ∨ (40 ≤ c ∧ c < 60 ∧ v = h.1 123 c) ∨ (100 ≤ c ∧ c < 20000 ∧ v = nI (c - 100))) : F_X12_worth_b14 N (fu + 1) (nI l) (nI d) (nI k) h = F_X12_worth_b14 N fu (nI l) (nI (popV (h.1 122) d v).1) (nI (k + 1)) (dlv h d v) := by
  rw [w_body hl hkt hk hk4 hc]
  have hc2 : c < 2 ^ 31 := by omega
  have nn : ∀ x : Nat, x < 60 → c ≠ x → ∀ y : Int32, y = nI x → ¬ nI c = y := fun x hx q y hy z => q ((nI_eq hc2 (by omega)).mp (z.trans hy))
  rw [if_neg (nn 28 (by omega) (by omega) 28 rfl), if_neg (nn 30 (by omega) (by omega) 30 rfl), if_neg (nn 20 (by omega) (by omega) 20 rfl), if_neg (nn 21 (by omega) (by omega) 21 rfl), if_neg (nn 22 (by omega) (by omega) 22 rfl), if_neg (nn 24 (by omega) (by omega) 24 rfl), if_neg (nn 25 (by omega) (by omega) 25 rfl), if_neg (nn 26 (by omega) (by omega) 26 rfl), if_neg (nn 27 (by omega) (by omega) 27 rfl)]
  unfold F_X12_worth_b239 F_X12_worth_b250
  rw [if_neg (nn 29 (by omega) (by omega) 29 rfl), if_neg (nn 29 (by omega) (by omega) 29 rfl), if_neg (nn 29 (by omega) (by omega) 29 rfl)]
  rcases h2 with ⟨q1, q2⟩ | ⟨q1, q2, q3⟩ | ⟨q1, q2, q3⟩
  · rw [if_pos ((n_lt_l 100 (by omega) (by omega)).mpr (by omega)), if_pos ((n_lt_l 20 (by omega) (by omega)).mpr (by omega)), if_pos (nI_in0 (by omega) (by omega)), nI_clamp (by omega), ← q2, b275_x d v N (by omega) hd]
  · rw [if_pos ((n_lt_l 100 (by omega) (by omega)).mpr (by omega)), if_neg (fun z => by have := (n_lt_l 20 (by omega) (by omega)).mp z; omega), if_neg (fun z => by have := (n_lt_l 40 (by omega) (by omega)).mp z; omega), if_pos (nI_in0 (by omega) (by omega)), nI_clamp (by omega), ← q3, b275_x d v N (by omega) hd]
  · rw [if_neg (fun z => by have := (n_lt_l 100 (by omega) (by omega)).mp z; omega), show (100 : Int32) = nI 100 from rfl, pk_sub q1, ← q3, b275_x d v N (by omega) hd]
theorem w_close {kt : Nat} (hN : 100 ≤ N) (hl : l < 26) (hkt : h.1 107 l = nI kt) (hk : k < kt) (hk4 : kt ≤ 4000) (hd : d + 1 < 7) (hc : h.1 111 k = 29) : F_X12_worth_b14 N (fu + 1) (nI l) (nI (d + 1)) (nI k) h = F_X12_worth_b14 N fu (nI l) (nI (popV ((hHo (d + 1) h).1 122) d (aV h (d + 1))).1) (nI (k + 1)) (dlv (hHo (d + 1) h) d (aV h (d + 1))) := by
  have e14 : (hHo (d + 1) h).1 114 (d + 1) = aV h (d + 1) := by unfold hHo; simp [hs_1]
  rw [w_body hl hkt hk hk4 hc]
  unfold F_X12_worth_b250
  rw [if_neg (by decide), if_neg (by decide), if_neg (by decide), if_neg (by decide), if_neg (by decide), if_neg (by decide), if_neg (by decide), if_neg (by decide), if_neg (by decide), if_pos (by decide), if_neg (by decide), if_pos (by decide), if_pos rfl, holds_x hd, bV_s, if_pos (nI_in0 hd (by omega)), nI_clamp (by omega), e14]
  simp only [ib_e]
  rw [pk_m1, b275_x d _ N (by omega) (by omega)]
end
