/-! a tick of the reference -/
def MvS : List Nat := [114, 115, 116, 117, 118, 119, 120, 121, 122, 123]
def MvK : List (Nat × Nat) := [(103, 36)]
theorem Mv_v {h h' : PH} (f : VF h h') : fq MvS MvK h h' := fun k j h1 _ => congrFun (f.1 k (by simp [MvS] at h1; omega)) j
theorem Mv_123 {h h' : PH} (f : fr [123] h h') : fq MvS MvK h h' := fq_w (fq_fr (K := []) f) (by simp [MvS]) (by simp)
def SeM (s : Nat × Nat × Nat) (r j : Nat) (f : Nat → Int32) : Prop := (∀ a, a < 8 → f (1 + a) = nI (r / 2 ^ a % 2)) ∧ (∀ a, a < 6 → f (40 + a) = if a + 1 = j then 1 else 0) ∧ (∀ a, a < 6 → f (50 + a) = if a = s.2.1 then 1 else 0) ∧ f 9 = nI s.2.2 ∧ f 10 = if j = 0 then 0 else 1
section
variable {F N nv : Nat} {T : Nat → Int32 → Bool} {s : Nat × Nat × Nat} {j : Nat}
theorem se69 (o : OkS F s) (hF : F ≤ 6) (hj : j ≤ F) : ∀ (fu i : Nat) (h : PH), i ≤ 6 → 6 < fu + i → okV (F_X12_sets_b69 N fu (nI (msN s)) (bu j) (nI i) h) (fun h' => (∀ a, i ≤ a → a < 6 → h'.1 123 (40 + a) = (if a + 1 = j then 1 else 0) ∧ h'.1 123 (50 + a) = if a = s.2.1 then 1 else 0) ∧ (∀ c, c < 40 ∨ (40 ≤ c ∧ c < 40 + i) ∨ (50 ≤ c ∧ c < 50 + i) → h'.1 123 c = h.1 123 c) ∧ fr [123] h h') := by
  intro fu
  induction fu with
  | zero => intro i h h1 h2; omega
  | succ fu ih =>
    intro i h h1 h2
    rw [F_X12_sets_b69]
    by_cases g : i = 6
    · subst g
      rw [if_pos (by decide)]
      exact okV_s ⟨fun a q1 q2 => by omega, fun _ _ => rfl, fr_0⟩
    · rw [if_neg (fun z => by have := (l_le_n 6 (by omega) (by omega)).mp z; omega), show (40 : Int32) = nI 40 from rfl, nI_add]
      have e1 : (if bu j = nI i then F_X12_sets_b96 N (F_X12_sets_b69 N fu) (nI (msN s)) (bu j) (nI i) 1 (nI (40 + i)) h else F_X12_sets_b96 N (F_X12_sets_b69 N fu) (nI (msN s)) (bu j) (nI i) 0 (nI (40 + i)) h) = F_X12_sets_b96 N (F_X12_sets_b69 N fu) (nI (msN s)) (bu j) (nI i) (if i + 1 = j then 1 else 0) (nI (40 + i)) h := by
        have q : bu j = nI i ↔ i + 1 = j := by
          cases j with
          | zero =>
            constructor
            · intro z
              exact absurd z.symm (n_eq_m1 (by omega))
            · intro z; omega
          | succ k =>
            rw [show bu (k + 1) = nI k from rfl, nI_eq (by omega) (by omega)]
            omega
        by_cases z : i + 1 = j
        · rw [if_pos (q.mpr z), if_pos z]
        · rw [if_neg (fun y => z (q.mp y)), if_neg z]
      rw [e1]
      unfold F_X12_sets_b96
      rw [if_pos (nI_in0 (by omega) (by omega)), nI_clamp (by omega), hb_e, floorM o hF, bI_s, show (50 : Int32) = nI 50 from rfl, nI_add]
      have e2 : ∀ k : PH, (if nI s.2.1 = nI i then F_X12_sets_b120 N (F_X12_sets_b69 N fu) (nI (msN s)) (bu j) (nI i) 1 (nI (50 + i)) k else F_X12_sets_b120 N (F_X12_sets_b69 N fu) (nI (msN s)) (bu j) (nI i) 0 (nI (50 + i)) k) = F_X12_sets_b120 N (F_X12_sets_b69 N fu) (nI (msN s)) (bu j) (nI i) (if i = s.2.1 then 1 else 0) (nI (50 + i)) k := by
        intro k
        have := o.2.1
        by_cases z : i = s.2.1
        · rw [if_pos (by rw [z]), if_pos z]
        · rw [if_neg (fun y => z ((nI_eq (by omega) (by omega)).mp y).symm), if_neg z]
      rw [e2]
      unfold F_X12_sets_b120
      rw [if_pos (nI_in0 (by omega) (by omega)), nI_clamp (by omega)]
      simp only [hb_e, ib_e]
      rw [nI_1]
      refine okV_m (ih (i + 1) _ (by omega) (by omega)) (fun k q => ?_)
      obtain ⟨q1, q2, q3⟩ := q
      refine ⟨fun a b1 b2 => ?_, fun c hc => ?_, fr_t (fr_s (fr_s fr_0 (by simp)) (by simp)) q3⟩
      · by_cases z : a = i
        · subst z
          rw [q2 (40 + a) (by omega), q2 (50 + a) (by omega)]
          simp [hs_1]
        · exact q1 a (by omega) b2
      · rw [q2 c (by omega), hs_1, if_pos rfl, if_neg (by omega), hs_1, if_pos rfl, if_neg (by omega)]
theorem se3 {x1 x3 : Int32} {r : Nat} (hr : r < 256) : ∀ (fu i : Nat) (h : PH), i ≤ 8 → 8 < fu + i → ∃ h', F_X12_sets_b3 N fu x1 (nI r) x3 (nI i) h = F_X12_sets_b31 N x1 x3 h' ∧ (∀ a, i ≤ a → a < 8 → h'.1 123 (1 + a) = nI (r / 2 ^ a % 2)) ∧ (∀ c, c < 1 + i → h'.1 123 c = h.1 123 c) ∧ fr [123] h h' := by
  intro fu
  induction fu with
  | zero => intro i h h1 h2; omega
  | succ fu ih =>
    intro i h h1 h2
    rw [F_X12_sets_b3]
    by_cases g : i = 8
    · subst g
      rw [if_pos (by decide)]
      exact ⟨h, rfl, fun a q1 q2 => by omega, fun _ _ => rfl, fr_0⟩
    · have sh : ∀ i, i < 31 → ((nI i &&& 31).toBitVec.smod 32).toNat = i := by decide +kernel
      rw [if_neg (fun z => by have := (l_le_n 8 (by omega) (by omega)).mp z; omega), show (1 : Int32) + nI i = nI (1 + i) from nI_add 1 i, if_pos (nI_in0 (by omega) (by omega)), nI_clamp (by omega), hb_e, ib_e, nI_1, pk_shrN (by omega) _ i (sh i (by omega)), pk_andN (by have := Nat.div_le_self r (2 ^ i); omega) 1 (by decide)]
      obtain ⟨h', e1, q1, q2, q3⟩ := ih (i + 1) (hs h 123 (1 + i) (nI (r / 2 ^ i % 2 ^ 1))) (by omega) (by omega)
      refine ⟨h', e1, fun a b1 b2 => ?_, fun c hc => ?_, fr_t (fr_s fr_0 (by simp)) q3⟩
      · by_cases z : a = i
        · subst z
          rw [q2 (1 + a) (by omega)]
          simp [hs_1]
        · exact q1 a (by omega) b2
      · rw [q2 c (by omega), hs_1, if_pos rfl, if_neg (by omega)]
theorem sets_x {r : Nat} {h : PH} (hN : 5000 ≤ N) (o : OkS F s) (hF : F ≤ 6) (hj : j ≤ F) (hr : r < 256) : okV (F_X12_sets N (nI (msN s)) (nI r) (bu j) h) (fun h' => SeM s r j (h'.1 123) ∧ fr [123] h h') := by
  unfold F_X12_sets
  obtain ⟨h1, e1, q1, q2, q3⟩ := se3 (N := N) (x1 := nI (msN s)) (x3 := bu j) hr N 0 h (by omega) (by omega)
  rw [show F_X12_sets_b3 N N (nI (msN s)) (nI r) (bu j) 0 h = _ from e1]
  unfold F_X12_sets_b31
  rw [openM o hF, bI_s]
  have e2 : (if nI s.2.2 = 0 then F_X12_sets_b49 N (nI (msN s)) (bu j) 0 9 h1 else F_X12_sets_b49 N (nI (msN s)) (bu j) 1 9 h1) = F_X12_sets_b49 N (nI (msN s)) (bu j) (nI s.2.2) 9 h1 := by
    have := o.2.2
    by_cases z : s.2.2 = 0
    · rw [z, if_pos (by decide)]; rfl
    · rw [show s.2.2 = 1 by omega, if_neg (by decide)]; rfl
  rw [e2]
  unfold F_X12_sets_b49
  rw [if_pos (by decide), hb_e]
  have e3 : ∀ k : PH, (if bu j < 0 then F_X12_sets_b65 N (nI (msN s)) (bu j) 0 10 k else F_X12_sets_b65 N (nI (msN s)) (bu j) 1 10 k) = F_X12_sets_b65 N (nI (msN s)) (bu j) (if j = 0 then 0 else 1) 10 k := by
    intro k
    cases j with
    | zero => rw [if_pos (show bu 0 < 0 by decide), if_pos rfl]
    | succ i => rw [if_neg (show ¬ bu (i + 1) < 0 from nI_pos (by omega)), if_neg (by omega)]
  rw [e3]
  unfold F_X12_sets_b65
  rw [if_pos (by decide), hb_e]
  refine okV_m (se69 (N := N) o hF hj N 0 _ (by omega) (by omega)) (fun k q => ?_)
  obtain ⟨p1, p2, p3⟩ := q
  refine ⟨⟨fun a ha => ?_, fun a ha => (p1 a (by omega) ha).1, fun a ha => (p1 a (by omega) ha).2, ?_, ?_⟩, fr_t q3 (fr_t (fr_s (fr_s fr_0 (by simp)) (by simp)) p3)⟩
  · rw [p2 (1 + a) (by omega), ← q1 a (by omega) ha, hs_1, if_pos rfl, if_neg (show ¬ 1 + a = Int32.toNatClampNeg 10 from fun z => absurd (show 1 + a = 10 from z) (by omega)), hs_1, if_pos rfl, if_neg (show ¬ 1 + a = Int32.toNatClampNeg 9 from fun z => absurd (show 1 + a = 9 from z) (by omega))]
  · rw [p2 9 (by omega)]
    rfl
  · rw [p2 10 (by omega)]
    rfl
theorem xct_b : ∀ f, f < 6 → ∀ o, o < 2 → ∀ j, j < 7 → (∀ a, a < 6 → xct f o j / 2 ^ a % 2 = if a + 1 = j then 1 else 0) ∧ (∀ a, a < 6 → xct f o j / 2 ^ (6 + a) % 2 = if a = f then 1 else 0) ∧ xct f o j / 2 ^ 12 % 2 = o ∧ xct f o j / 2 ^ 13 % 2 = if j = 0 then 0 else 1 := by decide +kernel
theorem sh31 : ∀ i, i < 31 → ((nI i &&& 31).toBitVec.smod 32).toNat = i := by decide +kernel
theorem bit_x {n a : Nat} (hn : n < 2147483648) (ha : a < 31) : (nI n >>> (nI a &&& 31)) &&& 1 = nI (n / 2 ^ a % 2) := by
  rw [pk_shrN (by omega) _ a (sh31 a ha), pk_andN (by have := Nat.div_le_self n (2 ^ a); omega) 1 (by decide)]
theorem agr_S {r : Nat} {fa f : Nat → Int32} (o : OkS F s) (hF : F ≤ 6) (hj : j ≤ F) (hr : r < 256) (S : SeM s r j f) : Agr false (lfC (nI (fct s j r)) fa) f := by
  refine ⟨fun _ => rfl, ?_⟩
  rw [if_neg (by decide)]
  have lt : fct s j r < 4194304 := fct_lt ⟨o.1, by have := o.2.1; omega, o.2.2⟩ (by omega) hr
  obtain ⟨x1, x2, x3, x4⟩ := xct_b s.2.1 (by have := o.2.1; omega) s.2.2 o.2.2 j (by omega)
  obtain ⟨S1, S2, S3, S4, S5⟩ := S
  have bx : ∀ a, a < 31 → lfC (nI (fct s j r)) fa 3 a = nI (fct s j r / 2 ^ a % 2) := fun a ha => bit_x (by omega) ha
  have lo : ∀ a, a < 8 → fct s j r / 2 ^ a % 2 = r / 2 ^ a % 2 := fun a ha => by
    have e : fct s j r = r + 2 ^ a * (2 ^ (8 - a) * xct s.2.1 s.2.2 j) := by
      rw [← Nat.mul_assoc, ← Nat.pow_add, show a + (8 - a) = 8 by omega]
      unfold fct
      omega
    rw [e, Nat.add_mul_div_left _ _ (Nat.two_pow_pos a)]
    have : 2 ^ (8 - a) * xct s.2.1 s.2.2 j = 2 * (2 ^ (7 - a) * xct s.2.1 s.2.2 j) := by
      rw [← Nat.mul_assoc, show 8 - a = (7 - a) + 1 by omega, Nat.pow_succ, Nat.mul_comm (2 ^ (7 - a)) 2]
    rw [this, Nat.add_mul_mod_self_left]
  have hi : ∀ b, fct s j r / 2 ^ (8 + b) % 2 = xct s.2.1 s.2.2 j / 2 ^ b % 2 := fun b => by
    rw [Nat.pow_add, ← Nat.div_div_eq_div_mul, show fct s j r / 2 ^ 8 = xct s.2.1 s.2.2 j by unfold fct; omega]
  refine ⟨fun a ha => ?_, fun a ha => ?_, fun a ha => ?_, ?_, ?_⟩
  · rw [bx a (by omega), lo a ha, S1 a ha]
  · rw [bx _ (by omega), hi a, x1 a ha, S2 a ha]
    by_cases z : a + 1 = j
    · rw [if_pos z, if_pos z]; rfl
    · rw [if_neg z, if_neg z]; rfl
  · rw [bx _ (by omega), show 14 + a = 8 + (6 + a) by omega, hi, x2 a ha, S3 a ha]
    by_cases z : a = s.2.1
    · rw [if_pos z, if_pos z]; rfl
    · rw [if_neg z, if_neg z]; rfl
  · rw [bx _ (by omega), show 20 = 8 + 12 from rfl, hi, x3, S4]
  · rw [bx _ (by omega), show 21 = 8 + 13 from rfl, hi, x4, S5]
    by_cases z : j = 0
    · rw [if_pos z, if_pos z]; rfl
    · rw [if_neg z, if_neg z]; rfl
theorem LnT_m {h h' : PH} (L : LnT T nv h) (f : fq MvS MvK h h') : LnT T nv h' := LnT_q L (fun a b p => f a b (by unfold LnP at p; simp [MvS]; omega) (by unfold LnP at p; simp [MvK]; omega))
/-- one line asked, its facts set -/
theorem iso_S {l r : Nat} {h : PH} (hN : 5000 ≤ N) (L : LnT T nv h) (o : OkS F s) (hF : F ≤ 6) (hj : j ≤ F) (hr : r < 256) (hl : l < 25) (S : SeM s r j (h.1 123)) : okI (F_X12_isSo N (nI l) h) (fun v h' => v = (if T l (nI (fct s j r)) = true then 1 else 0) ∧ LnT T nv h' ∧ SeM s r j (h'.1 123) ∧ VF h h') := by
  refine okI_m (iso_T hN L hl (agr_S o hF hj hr S)) (fun v k q => ⟨q.1, LnT_v L q.2, ?_, q.2⟩)
  rw [q.2.1 123 (by omega)]
  exact S
theorem bh21 {r : Nat} (hN : 5000 ≤ N) (o : OkS F s) (hF : F ≤ 6) (hj : j ≤ F) (hr : r < 256) {x1 x2 : Int32} : ∀ (fu i : Nat) (h : PH), i ≤ 8 → 8 < fu + i → LnT T nv h → SeM s r j (h.1 123) → ∃ h', F_X12_behind_b21 N fu x1 x2 (nI (rl (fun i => T i (nI (fct s j r))) i)) (nI i) h = F_X12_behind_b54 N x1 x2 (nI (rl (fun i => T i (nI (fct s j r))) 8)) h' ∧ VF h h' := by
  intro fu
  induction fu with
  | zero => intro i h h1 h2; omega
  | succ fu ih =>
    intro i h h1 h2 L S
    rw [F_X12_behind_b21]
    by_cases g : i = 8
    · subst g
      rw [if_pos (by decide)]
      exact ⟨h, rfl, VF_0⟩
    · rw [if_neg (fun z => by have := (l_le_n 8 (by omega) (by omega)).mp z; omega)]
      obtain ⟨v, h', e, q, L', S', f⟩ := iso_S hN L o hF hj hr (show i < 25 by omega) S
      rw [e, bI_s]
      unfold F_X12_behind_b46
      simp only [ib_e]
      rw [nI_1]
      obtain ⟨h2', e2, f2⟩ := ih (i + 1) h' (by omega) (by omega) L' S'
      refine ⟨h2', ?_, VF_t f f2⟩
      rw [← e2, q, rl]
      by_cases z : T i (nI (fct s j r)) = true
      · rw [if_pos z, if_neg (by decide), or_bit (rl_lt _ i) (by omega), if_pos z]
      · rw [if_neg z, if_pos rfl, if_neg z]
        rw [show nI (rl (fun i => T i (nI (fct s j r))) i) ||| 0 = nI (rl (fun i => T i (nI (fct s j r))) i) from Int32.or_zero]
        rfl
theorem lm15 {r : Nat} (hN : 5000 ≤ N) (o : OkS F s) (hF : F ≤ 6) (hj : j ≤ F) (hr : r < 256) : ∀ (fu i : Nat) (h : PH), i ≤ 8 → 8 < fu + i → LnT T nv h → SeM s r j (h.1 123) → okI (F_X12_lampsOf_b15 N fu (nI (rl (fun i => T (11 + i) (nI (fct s j r))) i)) (nI i) h) (fun v h' => v = nI (rl (fun i => T (11 + i) (nI (fct s j r))) 8) ∧ VF h h') := by
  intro fu
  induction fu with
  | zero => intro i h h1 h2; omega
  | succ fu ih =>
    intro i h h1 h2 L S
    rw [F_X12_lampsOf_b15]
    by_cases g : i = 8
    · subst g
      rw [if_pos (by decide)]
      exact okI_s ⟨rfl, VF_0⟩
    · rw [if_neg (fun z => by have := (l_le_n 8 (by omega) (by omega)).mp z; omega), show (11 : Int32) = nI 11 from rfl, nI_add]
      obtain ⟨v, h', e, q, L', S', f⟩ := iso_S hN L o hF hj hr (show 11 + i < 25 by omega) S
      rw [e, bI_s]
      unfold F_X12_lampsOf_b40
      simp only [ib_e]
      rw [nI_1]
      have e2 := ih (i + 1) h' (by omega) (by omega) L' S'
      refine okI_m (P := fun v h2 => v = nI (rl (fun i => T (11 + i) (nI (fct s j r))) 8) ∧ VF h' h2) ?_ (fun v k z => ⟨z.1, VF_t f z.2⟩)
      rw [q]
      rw [rl] at e2
      by_cases z : T (11 + i) (nI (fct s j r)) = true
      · rw [if_pos z] at e2
        rw [if_pos z, if_neg (by decide), or_bit (rl_lt _ i) (by omega)]
        exact e2
      · rw [if_neg z] at e2
        rw [if_neg z, if_pos rfl]
        rw [show nI (rl (fun i => T (11 + i) (nI (fct s j r))) i) ||| 0 = nI (rl (fun i => T (11 + i) (nI (fct s j r))) i) from Int32.or_zero]
        exact e2
theorem lampsM {h : PH} (hN : 5000 ≤ N) (L : LnT T nv h) (o : OkS F s) (hF : F ≤ 6) : okI (F_X12_lampsOf N (nI (msN s)) h) (fun v h' => v = nI (lmp T s) ∧ fq MvS MvK h h') := by
  unfold F_X12_lampsOf
  rw [relM o hF, show (-1 : Int32) = bu 0 from rfl]
  refine okI_bV (okV_m (sets_x hN o hF (Nat.zero_le _) o.1) (fun k q => ?_))
  refine okI_m (lm15 (F := F) (s := s) (j := 0) hN o hF (Nat.zero_le _) o.1 N 0 k (by omega) (by omega) (LnT_m L (Mv_123 q.2)) q.1) (fun v k2 z => ⟨z.1, fq_t (Mv_123 q.2) (Mv_v z.2)⟩)
theorem behindM {h : PH} (hN : 5000 ≤ N) (L : LnT T nv h) (C : HM F h) (o : OkS F s) (hF : F ≤ 6) (hj : j ≤ F) : okI (F_X12_behind N (nI (msN s)) (bu j) h) (fun v h' => v = nI (msN (nxt F T s j).1) ∧ h'.1 103 36 = nI (nxt F T s j).2 ∧ fq MvS MvK h h') := by
  unfold F_X12_behind
  rw [hb_e, relM o hF]
  obtain ⟨h1, e1, S1, f1⟩ := sets_x (h := hs h 103 36 0) hN o hF hj o.1
  have g1 : fq MvS MvK h h1 := fq_t (fq_s fq_0 (Or.inr (by decide))) (Mv_123 f1)
  rw [e1, bV_s]
  obtain ⟨h2, e2, f2⟩ := bh21 (T := T) (nv := nv) hN o hF hj o.1 (x1 := nI (msN s)) (x2 := bu j) N 0 h1 (by omega) (by omega) (LnT_m L g1) S1
  have g2 : fq MvS MvK h h2 := fq_t g1 (Mv_v f2)
  rw [show F_X12_behind_b21 N N (nI (msN s)) (bu j) 0 0 h1 = _ from e2, show rl (fun i => T i (nI (fct s j s.1))) 8 = rel T s j from rfl]
  have hr : rel T s j < 256 := rl8 _
  have z0 : h2.1 103 36 = 0 := by rw [f2.1 103 (by omega), f1 103 (by simp)]; rfl
  unfold nxt F_X12_behind_b54
  generalize rel T s j = r at hr ⊢
  obtain ⟨h3, e3, S3, f3⟩ := sets_x (h := h2) hN o hF hj hr
  rw [e3, bV_s]
  have g3 : fq MvS MvK h h3 := fq_t g2 (Mv_123 f3)
  obtain ⟨v8, h4, e4, q8, L4, S4, f4⟩ := iso_S hN (LnT_m L g3) o hF hj hr (show 8 < 25 by omega) S3
  rw [show F_X12_isSo N 8 h3 = _ from e4, bI_s]
  obtain ⟨v9, h5, e5, q9, L5, S5, f5⟩ := iso_S hN L4 o hF hj hr (show 9 < 25 by omega) S4
  rw [show F_X12_isSo N 9 h4 = _ from e5, bI_s]
  obtain ⟨v10, h6, e6, q10, L6, S6, f6⟩ := iso_S hN L5 o hF hj hr (show 10 < 25 by omega) S5
  rw [show F_X12_isSo N 10 h5 = _ from e6, bI_s, floorM o hF, bI_s, openM o hF, bI_s]
  have g6 : fq MvS MvK h h6 := fq_t g3 (fq_t (Mv_v f4) (fq_t (Mv_v f5) (Mv_v f6)))
  have z6 : h6.1 103 36 = 0 := by rw [f6.1 103 (by omega), f5.1 103 (by omega), f4.1 103 (by omega), f3 103 (by simp)]; exact z0
  have C6 : HM F h6 := by
    unfold HM
    rw [g6 103 1 (by simp [MvS]) (by simp [MvK])]
    exact C
  subst q8 q9 q10
  generalize T 8 (nI (fct s j r)) = u
  generalize T 9 (nI (fct s j r)) = d
  generalize T 10 (nI (fct s j r)) = p
  have b162 : ∀ (f : Nat) (x : Bool) (k : PH), F_X12_behind_b162 N (nI r) (nI f) (if x = true then 1 else 0) k = some (nI (msN (r, f, if x then 1 else 0)), k) := by
    intro f x k
    unfold F_X12_behind_b162 F_X12_behind_b182
    rw [show (256 : Int32) = nI 256 from rfl, pk_mul, nI_add, show (0 : Int32) = nI 0 from rfl, show (1536 : Int32) = nI 1536 from rfl, nI_add, nI_add]
    cases x
    · rfl
    · rfl
  have b132 : ∀ (x : Int32) (k : Nat), F_X12_behind_b132 N (nI r) (nI s.2.1) 0 x h6 = if isF F x = true then F_X12_behind_b162 N (nI r) x 0 h6 else F_X12_behind_b162 N (nI r) (nI s.2.1) 0 (hs h6 103 36 1) := by
    intro x k
    unfold F_X12_behind_b132 F_X12_behind_b155
    rw [isFloorM_x C6, bI_s]
    by_cases z : isF F x = true
    · rw [if_pos z, if_neg (by decide), if_pos z]
    · rw [if_neg z, if_pos rfl, if_neg z]
      rfl
  by_cases g : s.2.2 = 0
  · rw [g, if_pos (by decide)]
    cases u <;> cases d
    · rw [if_pos rfl, b162, nxa_s (Or.inr rfl)]
      exact okI_s ⟨rfl, z6, g6⟩
    · rw [if_neg (by decide), if_pos (by decide), nxa_d g, show nI 0 = (0 : Int32) from rfl, b132 _ 0]
      by_cases q : 0 < s.2.1
      · rw [nI_m1 q, if_pos (isF_k (by have := o.2.1; omega) (by omega)), if_pos q, show (0 : Int32) = if false = true then 1 else 0 from rfl, b162]
        exact okI_s ⟨rfl, z6, g6⟩
      · have q0 : s.2.1 = 0 := by omega
        rw [q0, if_neg (by unfold isF; simp; intro y; exact absurd y (by decide)), if_neg (by omega), show (0 : Int32) = if false = true then 1 else 0 from rfl, show (nI 0 : Int32) = nI 0 from rfl, b162]
        exact okI_s ⟨rfl, by simp [hs_1]; rfl, fq_s g6 (Or.inr (by decide))⟩
    · rw [if_neg (by decide), if_neg (by decide), nxa_u g, show nI 0 = (0 : Int32) from rfl, b132 _ 0, nI_1]
      by_cases q : s.2.1 + 1 < F
      · rw [if_pos (isF_k q (by omega)), if_pos q, show (0 : Int32) = if false = true then 1 else 0 from rfl, b162]
        exact okI_s ⟨rfl, z6, g6⟩
      · rw [if_neg (by unfold isF; simp; intro y; exact nI_le (by omega) (by have := o.2.1; omega)), if_neg q, show (0 : Int32) = if false = true then 1 else 0 from rfl, b162]
        exact okI_s ⟨rfl, by simp [hs_1]; rfl, fq_s g6 (Or.inr (by decide))⟩
    · rw [if_pos rfl, b162, nxa_s (Or.inr rfl)]
      exact okI_s ⟨rfl, z6, g6⟩
  · have g1 : s.2.2 = 1 := by have := o.2.2; omega
    rw [g1, if_neg (by decide), b162, nxa_s (Or.inl g1)]
    exact okI_s ⟨rfl, z6, g6⟩
end
