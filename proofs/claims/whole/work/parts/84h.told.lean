/-! tests(): what the reference finds -/
def dS : Nat → Nat
  | 0 => 1
  | k + 1 => 8 + 7 * dS k
def StL (B : Nat) (h : PH) : Prop := ∀ lv, lv < 3 → ∃ K, K ≤ B ∧ h.1 135 lv = nI K ∧ ∀ i, i < 256 → ∃ m, m ≤ K ∧ h.1 134 (256 * lv + i) = nI m
def SMB (B : Nat) (h : PH) : Prop := (∃ K, K ≤ B ∧ StM K h) ∧ StL B h
def TmF (lv : Nat) (h h' : PH) : Prop := ∀ x y, ¬ ((x = 131 ∧ 3072 * (lv + 1) ≤ y) ∨ (x = 132 ∧ lv + 1 ≤ y) ∨ x = 133 ∨ (x = 103 ∧ y = 50) ∨ (x = 134 ∧ 256 * lv ≤ y) ∨ (x = 135 ∧ lv ≤ y)) → h'.1 x y = h.1 x y
def TelM (F : Nat) (T : Nat → Int32 → Bool) (q : List ((Nat × Nat × Nat) × Nat × Nat × Nat)) (N left P : Nat) : Prop := ∀ lv j D B h, lv + left ≤ 2 → j ≤ F → B + 1 + dS left * D.length < 4294967296 → AM F T q h → XM F T q.length 0 q h → HM F h → HdD q.length D → HdM q (3072 * lv) lv D h → SMB B h → ∃ r h', (MT N P).1 (nI lv) (bu j) (nI left) h = some (r, h') ∧ ((r = 1 ∧ ∀ l, tCan F T q left (tImg F T q (inD D) j l)) ∨ (r = 0 ∧ ¬ ∀ l, tCan F T q left (tImg F T q (inD D) j l))) ∧ SMB (B + 1 + dS left * D.length) h' ∧ TmF lv h h'
def cT (left n : Nat) : Nat := if left = 0 then 0 else 7 * (1 + dS (left - 1) * n)
def ToldM (F : Nat) (T : Nat → Int32 → Bool) (q : List ((Nat × Nat × Nat) × Nat × Nat × Nat)) (N left P : Nat) : Prop := ∀ lv D B h, lv + left ≤ 3 → B + cT left D.length < 4294967296 → AM F T q h → XM F T q.length 0 q h → HM F h → HdD q.length D → HdM q (3072 * lv) lv D h → SMB B h → ∃ r h', (MT N P).2 (nI lv) (nI left) h = some (r, h') ∧ ((r = 1 ∧ tCan F T q left (inD D)) ∨ (r = 0 ∧ ¬ tCan F T q left (inD D))) ∧ SMB (B + cT left D.length) h' ∧ TmF lv h h'
section
variable {F N nv : Nat} {T : Nat → Int32 → Bool} {q : List ((Nat × Nat × Nat) × Nat × Nat × Nat)} {h h' h2 : PH}
theorem TmF_0 {lv : Nat} : TmF lv h h := fun _ _ _ => rfl
theorem TmF_t {lv : Nat} (a : TmF lv h h') (b : TmF lv h' h2) : TmF lv h h2 := fun x y z => (b x y z).trans (a x y z)
theorem SMB_w {B B' : Nat} (s : SMB B h) (e : B ≤ B') : SMB B' h := by
  obtain ⟨⟨K, k1, k2⟩, l⟩ := s
  refine ⟨⟨K, by omega, k2⟩, fun lv hl => ?_⟩
  obtain ⟨K, a, b⟩ := l lv hl
  exact ⟨K, by omega, b⟩
theorem StL_q {B : Nat} (s : StL B h) (e : ∀ a b, a = 134 ∨ a = 135 → h'.1 a b = h.1 a b) : StL B h' := fun lv hl => by
  obtain ⟨K, a, b, c⟩ := s lv hl
  exact ⟨K, a, by rw [e 135 lv (by omega)]; exact b, fun i hi => by rw [e 134 _ (by omega)]; exact c i hi⟩
theorem AM_w {lv : Nat} (A : AM F T q h) (f : TmF lv h h') : AM F T q h' := AM_q A (fun a b z => f a b (by omega))
theorem XM_w {lv : Nat} (X : XM F T q.length 0 q h) (f : TmF lv h h') : XM F T q.length 0 q h' := fun a b y z w => by rw [f 129 _ (by omega)]; exact X a b y z w
theorem isOneM_b2 {lv : Nat} {D : List Nat} (hF : F ≤ 6) (G : QG F q) (hl : lv < 4) (HD : HdD q.length D) (Hm : HdM q (3072 * lv) lv D h) : ∀ m t fuel, 1 ≤ t → D.length ≤ t + m → t ≤ 3073 → m < fuel → (∀ s, s < t → s < D.length → (qS q (D.getD s 0)).2.1 = (qS q (D.getD 0 0)).2.1) → ∃ r, F_X12_isOne_b2 N fuel (nI lv) (nI t) h = some (r, h) ∧ ((r = 1 ∧ tOne q (inD D)) ∨ (r = 0 ∧ ¬ tOne q (inD D))) := by
  have ql := QD_le G.1 hF
  have dl := HdD_le HD
  have yes : (∀ s, s < D.length → (qS q (D.getD s 0)).2.1 = (qS q (D.getD 0 0)).2.1) → tOne q (inD D) := fun z x y ⟨s, s1, s2⟩ ⟨w, w1, w2⟩ => by rw [← s2, ← w2, z s s1, z w w1]
  intro m
  induction m with
  | zero =>
    intro t fuel t1 e1 e3 e2 I
    obtain ⟨fu, rfl⟩ : ∃ g, fuel = g + 1 := ⟨fuel - 1, by omega⟩
    rw [F_X12_isOne_b2, if_pos (nI_in0 hl (by omega)), nI_clamp (by omega), Hm.1, if_pos (nI_le (by omega) (by omega))]
    exact ⟨1, rfl, Or.inl ⟨rfl, yes (fun s hs => I s (by omega) hs)⟩⟩
  | succ m ih =>
    intro t fuel t1 e1 e3 e2 I
    obtain ⟨fu, rfl⟩ : ∃ g, fuel = g + 1 := ⟨fuel - 1, by omega⟩
    by_cases g : D.length ≤ t
    · rw [F_X12_isOne_b2, if_pos (nI_in0 hl (by omega)), nI_clamp (by omega), Hm.1, if_pos (nI_le (by omega) (by omega))]
      exact ⟨1, rfl, Or.inl ⟨rfl, yes (fun s hs => I s (by omega) hs)⟩⟩
    · have h0 := Hm.2 0 (by omega)
      have o1 := G.1.1 _ (HD.1 t (by omega))
      have o2 := G.1.1 _ (HD.1 0 (by omega))
      rw [Nat.add_zero] at h0
      rw [F_X12_isOne_b2, if_pos (nI_in0 hl (by omega)), nI_clamp (by omega), Hm.1, if_neg (nI_ge (by omega) (by omega)), show (3072 : Int32) = nI 3072 from rfl, pk_mul, nI_add, if_pos (nI_in0 (by omega : 3072 * lv + t < 12288) (by omega)), nI_clamp (by omega), Hm.2 t (by omega), floorM o1 hF, bI_s, if_pos (nI_in0 (by omega : 3072 * lv < 12288) (by omega)), nI_clamp (by omega), h0, floorM o2 hF, bI_s, ib_e, nI_1]
      by_cases e : (qS q (D.getD t 0)).2.1 = (qS q (D.getD 0 0)).2.1
      · rw [if_pos (by rw [e])]
        exact ih (t + 1) fu (by omega) (by omega) (by omega) (by omega) (fun s hs hn => by
          by_cases z : s = t
          · rw [z]; exact e
          · exact I s (by omega) hn)
      · rw [if_neg (fun z => e ((nI_eq (by have := o1.2.1; omega) (by have := o2.2.1; omega)).mp z))]
        exact ⟨0, rfl, Or.inr ⟨rfl, fun z => e (z _ _ ⟨t, by omega, rfl⟩ ⟨0, by omega, rfl⟩)⟩⟩
theorem isOneM_x {lv : Nat} {D : List Nat} (hN : 5000 ≤ N) (hF : F ≤ 6) (G : QG F q) (hl : lv < 4) (HD : HdD q.length D) (Hm : HdM q (3072 * lv) lv D h) : ∃ r, F_X12_isOne N (nI lv) h = some (r, h) ∧ ((r = 1 ∧ tOne q (inD D)) ∨ (r = 0 ∧ ¬ tOne q (inD D))) := by
  have ql := QD_le G.1 hF
  have dl := HdD_le HD
  exact isOneM_b2 hF G hl HD Hm D.length 1 N (by omega) (by omega) (by omega) (by omega) (fun s hs hn => by rw [show s = 0 by omega])
theorem flw_m {j l : Nat} {D : List Nat} {y : Nat} : ∀ t, y ∈ flw F T q j l D t ↔ ∃ s, s < t ∧ bhn F T q j (D.getD s 0) = y ∧ lmp T (qS q y) = l := by
  intro t
  induction t with
  | zero => simp [flw]
  | succ t ih =>
    rw [flw]
    by_cases g : lmp T (qS q (bhn F T q j (D.getD t 0))) = l ∧ bhn F T q j (D.getD t 0) ∉ flw F T q j l D t
    · rw [if_pos g, List.mem_append, ih]
      constructor
      · rintro (⟨s, s1, s2⟩ | z)
        · exact ⟨s, by omega, s2⟩
        · simp at z; exact ⟨t, by omega, z.symm, by rw [z]; exact g.1⟩
      · rintro ⟨s, s1, s2, s3⟩
        by_cases z : s = t
        · rw [z] at s2; right; simp; exact s2.symm
        · exact Or.inl ⟨s, by omega, s2, s3⟩
    · rw [if_neg g, ih]
      constructor
      · rintro ⟨s, s1, s2⟩; exact ⟨s, by omega, s2⟩
      · rintro ⟨s, s1, s2, s3⟩
        by_cases z : s = t
        · rw [z] at s2
          have m : bhn F T q j (D.getD t 0) ∈ flw F T q j l D t := by
            apply Classical.byContradiction
            intro c
            exact g ⟨by rw [s2]; exact s3, c⟩
          rw [s2] at m
          exact ih.mp m
        · exact ⟨s, by omega, s2, s3⟩
theorem flw_img {j l : Nat} {D : List Nat} : inD (flw F T q j l D D.length) = tImg F T q (inD D) j l := by
  funext y
  apply propext
  rw [show inD (flw F T q j l D D.length) y ↔ y ∈ flw F T q j l D D.length from mem_D.symm, flw_m]
  constructor
  · rintro ⟨s, s1, s2, s3⟩; exact ⟨D.getD s 0, ⟨s, s1, rfl⟩, s2.symm, s3⟩
  · rintro ⟨x, ⟨s, s1, s2⟩, x1, x2⟩; exact ⟨s, s1, by rw [s2]; exact x1.symm, x2⟩
theorem flw_ct {j l : Nat} {D : List Nat} : ∀ t, (flw F T q j l D t).length ≤ fb_ct (fun s => decide (lmp T (qS q (bhn F T q j (D.getD s 0))) = l)) t := by
  intro t
  induction t with
  | zero => simp [flw]
  | succ t ih =>
    rw [flw, fb_ct_succ]
    by_cases g : lmp T (qS q (bhn F T q j (D.getD t 0))) = l ∧ bhn F T q j (D.getD t 0) ∉ flw F T q j l D t
    · rw [if_pos g, List.length_append, List.length_singleton]
      show _ ≤ _ + (if decide (lmp T (qS q (bhn F T q j (D.getD t 0))) = l) = true then 1 else 0)
      rw [if_pos (decide_eq_true g.1)]; omega
    · rw [if_neg g]; omega
/-- how many of all have had their lamps' turn -/
def phi (la : Nat → Nat) (n t : Nat) : Nat := fb_ct (fun s => exn t (fun w => decide (la w = la s))) n
theorem phi_o {la : Nat → Nat} {n t : Nat} (o : ∃ w, w < t ∧ la w = la t) : phi la n (t + 1) = phi la n t := by
  obtain ⟨w, w1, w2⟩ := o
  refine fb_ct_cong (fun s _ => ?_)
  rw [exn_s]
  by_cases z : la t = la s
  · have : exn t (fun w => decide (la w = la s)) = true := exn_t.mpr ⟨w, w1, decide_eq_true (by rw [w2, z])⟩
    rw [this]; rfl
  · simp [z]
theorem phi_n {la : Nat → Nat} {n t : Nat} (o : ¬ ∃ w, w < t ∧ la w = la t) : phi la n (t + 1) = phi la n t + fb_ct (fun s => decide (la s = la t)) n := by
  unfold phi
  rw [← fb_ct_or (p := fun s => exn t (fun w => decide (la w = la s))) (q := fun s => decide (la s = la t)) (fun s _ z => o (by
    obtain ⟨z1, z2⟩ := z
    obtain ⟨w, w1, w2⟩ := exn_t.mp z1
    exact ⟨w, w1, by rw [of_decide_eq_true w2, of_decide_eq_true z2]⟩))]
  refine fb_ct_cong (fun s _ => ?_)
  rw [exn_s]
  congr 1
  exact decide_eq_decide.mpr ⟨fun z => z.symm, fun z => z.symm⟩
theorem told_0 {P : Nat} (hN : 5000 ≤ N) (hF0 : 0 < F) (hF : F ≤ 6) (G : QG F q) : ToldM F T q N 0 (P + 1) := by
  intro lv D B h hl hB A X M HD Hm SB
  show ∃ r h', F_X12_isTold N (MT N P).1 (MT N P).2 (nI lv) (nI 0) h = some (r, h') ∧ _
  unfold F_X12_isTold
  obtain ⟨r, e1, e2⟩ := isOneM_x (N := N) hN hF G (by omega : lv < 4) HD Hm
  rw [e1, bI_s]
  rcases e2 with ⟨rfl, e2⟩ | ⟨rfl, e2⟩
  · rw [if_neg one10]
    exact ⟨1, h, rfl, Or.inl ⟨rfl, e2⟩, SMB_w SB (by omega), TmF_0⟩
  · rw [if_pos rfl]
    obtain ⟨N', rfl⟩ : ∃ n, N = n + 1 := ⟨N - 1, by omega⟩
    rw [F_X12_isTold_b12, show h.1 103 1 = nI F from M, if_neg (fun z => absurd (Int32.le_trans (nI_pos' (n := F) (by omega)) z) (by decide)), if_pos (by decide)]
    exact ⟨0, h, rfl, Or.inr ⟨rfl, e2⟩, SMB_w SB (by omega), TmF_0⟩
theorem told_s {left P : Nat} (hN : 5000 ≤ N) (hF : F ≤ 6) (G : QG F q) (hl2 : left ≤ 1) (H : TelM F T q N left P) : ToldM F T q N (left + 1) (P + 1) := by
  intro lv D B h hl hB A X M HD Hm SB
  have ct : cT (left + 1) D.length = 7 * (1 + dS left * D.length) := by unfold cT; rw [if_neg (by omega)]; rfl
  rw [ct] at hB ⊢
  show ∃ r h', F_X12_isTold N (MT N P).1 (MT N P).2 (nI lv) (nI (left + 1)) h = some (r, h') ∧ _
  unfold F_X12_isTold
  obtain ⟨r, e1, e2⟩ := isOneM_x (N := N) hN hF G (by omega : lv < 4) HD Hm
  rw [e1, bI_s]
  rcases e2 with ⟨rfl, e2⟩ | ⟨rfl, e2⟩
  · rw [if_neg one10]
    exact ⟨1, h, rfl, Or.inl ⟨rfl, Or.inl e2⟩, SMB_w SB (by omega), TmF_0⟩
  · rw [if_pos rfl]
    have loop : ∀ m j fuel h1, j + m = F + 1 → m < fuel → (∀ i, i < j → ¬ ∀ l, tCan F T q left (tImg F T q (inD D) i l)) → SMB (B + j * (1 + dS left * D.length)) h1 → TmF lv h h1 → ∃ r h', F_X12_isTold_b12 N (MT N P).1 (MT N P).2 fuel (nI lv) (nI (left + 1)) (bu j) h1 = some (r, h') ∧ ((r = 1 ∧ tCan F T q (left + 1) (inD D)) ∨ (r = 0 ∧ ¬ tCan F T q (left + 1) (inD D))) ∧ SMB (B + 7 * (1 + dS left * D.length)) h' ∧ TmF lv h h' := by
      intro m
      induction m with
      | zero =>
        intro j fuel h1 p1 p2 p3 p4 p5
        obtain ⟨fu, rfl⟩ : ∃ g, fuel = g + 1 := ⟨fuel - 1, by omega⟩
        have jF : bu j = nI F := by rw [show j = F + 1 by omega]; rfl
        rw [F_X12_isTold_b12, p5 103 1 (by omega), show h.1 103 1 = nI F from M, jF, if_pos (nI_le (Nat.le_refl _) (by omega))]
        have : j * (1 + dS left * D.length) ≤ 7 * (1 + dS left * D.length) := Nat.mul_le_mul_right _ (by omega)
        refine ⟨0, h1, rfl, Or.inr ⟨rfl, fun z => ?_⟩, SMB_w p4 (by omega), p5⟩
        rcases z with z | ⟨i, i1, i2⟩
        · exact e2 z
        · exact p3 i (by omega) i2
      | succ m ih =>
        intro j fuel h1 p1 p2 p3 p4 p5
        obtain ⟨fu, rfl⟩ : ∃ g, fuel = g + 1 := ⟨fuel - 1, by omega⟩
        have jb : (j + 1) * (1 + dS left * D.length) ≤ 7 * (1 + dS left * D.length) := Nat.mul_le_mul_right _ (by omega)
        rw [Nat.succ_mul] at jb
        have M1 : HM F h1 := by unfold HM; rw [p5 103 1 (by omega)]; exact M
        have ql := QD_le G.1 hF
        have dl := HdD_le HD
        obtain ⟨r, h2, x1, x2, x3, x4⟩ := H lv j D _ h1 (by omega) (by omega) (by omega) (AM_w A p5) (XM_w X p5) M1 HD ⟨by rw [p5 132 lv (by omega)]; exact Hm.1, fun t ht => by rw [p5 131 _ (by omega)]; exact Hm.2 t ht⟩ p4
        have nj : ¬ nI F ≤ bu j := by
          cases j with
          | zero => exact fun z => absurd (Int32.le_trans (nI_pos' (n := F) (by omega)) z) (by decide)
          | succ i => exact nI_ge (by omega) (by omega)
        rw [F_X12_isTold_b12, show h1.1 103 1 = nI F from M1, if_neg nj, if_neg (fun z => by have := (n_le_l 0 (by omega) (by omega)).mp z; omega), nI_m1 (by omega), show left + 1 - 1 = left by omega, x1, bI_s, ib_e, bu_1]
        rcases x2 with ⟨rfl, x2⟩ | ⟨rfl, x2⟩
        · rw [if_neg one10]
          exact ⟨1, h2, rfl, Or.inl ⟨rfl, Or.inr ⟨j, by omega, x2⟩⟩, SMB_w x3 (by omega), TmF_t p5 x4⟩
        · rw [if_pos rfl]
          exact ih (j + 1) fu h2 (by omega) (by omega) (fun i hi => by
            by_cases z : i = j
            · rw [z]; exact x2
            · exact p3 i (by omega)) (SMB_w x3 (by rw [Nat.succ_mul]; omega)) (TmF_t p5 x4)
    exact loop (F + 1) 0 N h (by omega) (by omega) (fun i hi => by omega) (SMB_w SB (by omega)) TmF_0
theorem telM_s {left P : Nat} (hN : 5000 ≤ N) (hF : F ≤ 6) (G : QG F q) (XX : XF F T q.length 0 q) (hl2 : left ≤ 2) (H : ToldM F T q N left P) : TelM F T q N left (P + 1) := by
  intro lv j D B h hl hj hB A X M HD Hm SB
  have ql := QD_le G.1 hF
  have dl := HdD_le HD
  show ∃ r h', F_X12_tells N (MT N P).1 (MT N P).2 (nI lv) (bu j) (nI left) h = some (r, h') ∧ _
  unfold F_X12_tells
  obtain ⟨K0, k1, k2, k3⟩ := SB.2 lv (by omega)
  rw [if_pos (nI_in0 (by omega : lv < 4) (by omega)), nI_clamp (by omega), hb_e, k2, nI_1, show (hs h 135 lv (nI (K0 + 1))).1 135 lv = nI (K0 + 1) by simp [hs_1], ib_e]
  have c0 : ∀ x y, ¬ (x = 135 ∧ y = lv) → (hs h 135 lv (nI (K0 + 1))).1 x y = h.1 x y := fun x y z => by
    rw [hs_1]
    by_cases e : x = 135
    · rw [if_pos e, if_neg (by omega)]
    · rw [if_neg e]
  have ds : ∀ n, cT left n + 1 ≤ dS left * n ∨ n = 0 := fun n => by
    by_cases z : n = 0
    · exact Or.inr z
    · left
      cases left with
      | zero => show 0 + 1 ≤ 1 * n; omega
      | succ k =>
        unfold cT
        rw [if_neg (by omega), show k + 1 - 1 = k by omega, show dS (k + 1) = 8 + 7 * dS k from rfl, Nat.add_mul, Nat.mul_assoc]
        omega
  -- the loop
  have loop : ∀ m t fuel h1, t + m = D.length → m < fuel → (∀ s, s < t → tCan F T q left (tImg F T q (inD D) j (lmp T (qS q (bhn F T q j (D.getD s 0)))))) → SMB (B + 1 + dS left * phi (fun s => lmp T (qS q (bhn F T q j (D.getD s 0)))) D.length t) h1 → TmF lv h h1 → h1.1 135 lv = nI (K0 + 1) → (∀ i, i < 256 → ∃ m, m ≤ K0 + 1 ∧ h1.1 134 (256 * lv + i) = nI m) → (∀ l, l < 256 → (h1.1 134 (256 * lv + l) = nI (K0 + 1) ↔ ∃ s, s < t ∧ lmp T (qS q (bhn F T q j (D.getD s 0))) = l)) → ∃ r h', F_X12_tells_b21 N (MT N P).1 (MT N P).2 fuel (nI lv) (bu j) (nI left) (nI (K0 + 1)) (nI t) h1 = some (r, h') ∧ ((r = 1 ∧ ∀ l, tCan F T q left (tImg F T q (inD D) j l)) ∨ (r = 0 ∧ ¬ ∀ l, tCan F T q left (tImg F T q (inD D) j l))) ∧ SMB (B + 1 + dS left * D.length) h' ∧ TmF lv h h' := by
    intro m
    induction m with
    | zero =>
      intro t fuel h1 p1 p2 p3 p4 p5 p6 p7 p8
      obtain ⟨fu, rfl⟩ : ∃ g, fuel = g + 1 := ⟨fuel - 1, by omega⟩
      rw [F_X12_tells_b21, if_pos (nI_in0 (by omega : lv < 4) (by omega)), nI_clamp (by omega), p5 132 lv (by omega), Hm.1, if_pos (nI_le (by omega) (by omega))]
      have ph : phi (fun s => lmp T (qS q (bhn F T q j (D.getD s 0)))) D.length t ≤ D.length := fb_ct_le _ _
      refine ⟨1, h1, rfl, Or.inl ⟨rfl, fun l => ?_⟩, SMB_w p4 (by have := Nat.mul_le_mul_left (dS left) ph; omega), p5⟩
      by_cases z : ∃ y, tImg F T q (inD D) j l y
      · obtain ⟨y, x, ⟨s, s1, s2⟩, x1, x2⟩ := z
        have := p3 s (by omega)
        rw [s2, show bhn F T q j x = y from x1.symm, x2] at this
        exact this
      · exact tCan_e (fun y hy => z ⟨y, hy⟩) _
    | succ m ih =>
      intro t fuel h1 p1 p2 p3 p4 p5 p6 p7 p8
      obtain ⟨fu, rfl⟩ : ∃ g, fuel = g + 1 := ⟨fuel - 1, by omega⟩
      have hd := HD.1 t (by omega)
      have o := G.1.1 _ hd
      have ml := ms_lt o hF
      have hb2 := bhn_lt XX hd hj
      have o2 := G.1.1 _ hb2
      have ml2 := ms_lt o2 hF
      have A1 := AM_w A p5
      have X1 := XM_w X p5
      have Hm1 : HdM q (3072 * lv) lv D h1 := ⟨by rw [p5 132 lv (by omega)]; exact Hm.1, fun t ht => by rw [p5 131 _ (by omega)]; exact Hm.2 t ht⟩
      have M1 : HM F h1 := by unfold HM; rw [p5 103 1 (by omega)]; exact M
      have c129 : h1.1 129 (7 * msN (qS q (D.getD t 0)) + j) = nI (msN (qS q (bhn F T q j (D.getD t 0)))) := by
        rw [X1 _ j hj hd (Or.inl hd), bhn_s XX hd hj]
      have c130 : h1.1 130 (msN (qS q (bhn F T q j (D.getD t 0)))) = nI (lmp T (qS q (bhn F T q j (D.getD t 0)))) := (A1.2.1 _ hb2).2.2.2.2
      have ll := lmp_lt (T := T) (s := qS q (bhn F T q j (D.getD t 0)))
      rw [F_X12_tells_b21, if_pos (nI_in0 (by omega : lv < 4) (by omega)), nI_clamp (by omega), Hm1.1, if_neg (nI_ge (by omega) (by omega)), show (3072 : Int32) = nI 3072 from rfl, pk_mul, nI_add, if_pos (nI_in0 (by omega : 3072 * lv + t < 12288) (by omega)), nI_clamp (by omega), Hm1.2 t (by omega), show (7 : Int32) = nI 7 from rfl, pk_mul, Int32.add_assoc, Int32.add_comm 1 (bu j), bu_1, nI_add, if_pos (nI_in0 (by omega : 7 * msN (qS q (D.getD t 0)) + j < 21504) (by omega)), nI_clamp (by omega), c129, if_pos (nI_in0 ml2 (by omega)), nI_clamp (by omega), c130, ib_e, show (256 : Int32) = nI 256 from rfl, pk_mul, nI_add, if_pos (nI_in0 (by omega : 256 * lv + lmp T (qS q (bhn F T q j (D.getD t 0))) < 1024) (by omega)), nI_clamp (by omega), if_pos (nI_in0 (by omega : 256 * lv + lmp T (qS q (bhn F T q j (D.getD t 0))) < 1024) (by omega)), hb_e]
      unfold F_X12_tells_b121
      simp only [ib_e, nI_1]
      generalize hla : (fun s => lmp T (qS q (bhn F T q j (D.getD s 0)))) = la at p4 ih ⊢
      have la_e : ∀ s, la s = lmp T (qS q (bhn F T q j (D.getD s 0))) := fun s => by rw [← hla]
      by_cases g : ∃ s, s < t ∧ lmp T (qS q (bhn F T q j (D.getD s 0))) = lmp T (qS q (bhn F T q j (D.getD t 0)))
      · rw [if_pos ((p8 _ ll).mpr g)]
        have ph := phi_o (la := la) (n := D.length) (t := t) (by obtain ⟨s, s1, s2⟩ := g; exact ⟨s, s1, by rw [la_e, la_e]; exact s2⟩)
        refine ih (t + 1) fu h1 (by omega) (by omega) (fun s hs => ?_) (by rw [ph]; exact p4) p5 p6 p7 (fun l hl' => ?_)
        · by_cases z : s = t
          · obtain ⟨w, w1, w2⟩ := g
            have := p3 w w1
            rw [z, ← w2]; exact this
          · exact p3 s (by omega)
        · rw [p8 l hl']
          constructor
          · rintro ⟨s, s1, s2⟩; exact ⟨s, by omega, s2⟩
          · rintro ⟨s, s1, s2⟩
            by_cases z : s = t
            · obtain ⟨w, w1, w2⟩ := g
              exact ⟨w, w1, by rw [w2, ← z]; exact s2⟩
            · exact ⟨s, by omega, s2⟩
      · rw [if_neg (fun z => g ((p8 _ ll).mp z))]
        have ph := phi_n (la := la) (n := D.length) (t := t) (fun c => g (by obtain ⟨s, s1, s2⟩ := c; rw [la_e, la_e] at s2; exact ⟨s, s1, s2⟩))
        have phl : phi la D.length (t + 1) ≤ D.length := fb_ct_le _ _
        have lt' : fb_ct (fun s => decide (la s = la t)) D.length = fb_ct (fun s => decide (lmp T (qS q (bhn F T q j (D.getD s 0))) = lmp T (qS q (bhn F T q j (D.getD t 0))))) D.length := fb_ct_cong (fun s _ => by rw [la_e, la_e])
        have cpos : 0 < fb_ct (fun s => decide (la s = la t)) D.length := fb_ct_pos.mpr ⟨t, by omega, by simp⟩
        have fc := flw_ct (F := F) (T := T) (q := q) (j := j) (l := lmp T (qS q (bhn F T q j (D.getD t 0)))) (D := D) D.length
        rw [← lt'] at fc
        generalize hcl : fb_ct (fun s => decide (la s = la t)) D.length = cl at ph cpos fc
        have mul1 : dS left * phi la D.length (t + 1) = dS left * phi la D.length t + dS left * cl := by rw [ph, Nat.mul_add]
        have mul2 : dS left * phi la D.length (t + 1) ≤ dS left * D.length := Nat.mul_le_mul_left _ phl
        have ctm : cT left (flw F T q j (lmp T (qS q (bhn F T q j (D.getD t 0)))) D D.length).length ≤ cT left cl := by
          unfold cT
          split
          · exact Nat.le_refl _
          · have := Nat.mul_le_mul_left (dS (left - 1)) fc
            omega
        have dsc := (ds cl).resolve_right (by omega)
        generalize hk1 : hs h1 134 (256 * lv + lmp T (qS q (bhn F T q j (D.getD t 0)))) (nI (K0 + 1)) = h2
        have c2 : ∀ x y, ¬ (x = 134 ∧ y = 256 * lv + lmp T (qS q (bhn F T q j (D.getD t 0)))) → h2.1 x y = h1.1 x y := fun x y z => by
          rw [← hk1, hs_1]
          by_cases e : x = 134
          · rw [if_pos e, if_neg (by omega)]
          · rw [if_neg e]
        have c2' : h2.1 134 (256 * lv + lmp T (qS q (bhn F T q j (D.getD t 0)))) = nI (K0 + 1) := by rw [← hk1]; simp [hs_1]
        obtain ⟨⟨K, w1, w2⟩, w3⟩ := p4
        have A2 : AM F T q h2 := AM_q A1 (fun a b z => c2 a b (by omega))
        have X2 : XM F T q.length 0 q h2 := fun a b y z w => by rw [c2 129 _ (by omega)]; exact X1 a b y z w
        have Hm2 : HdM q (3072 * lv) lv D h2 := ⟨by rw [c2 132 lv (by omega)]; exact Hm1.1, fun t ht => by rw [c2 131 _ (by omega)]; exact Hm1.2 t ht⟩
        obtain ⟨h3, x1, x2, x3, x4, x5⟩ := narrows_x (l := lmp T (qS q (bhn F T q j (D.getD t 0)))) (lv := lv) hN hF G XX hj ll (by omega) (by omega : K + 1 < 4294967296) HD A2 X2 Hm2 (StM_q w2 (fun a b z => c2 a b (by omega)))
        rw [x1, bV_s]
        have f23 : TmF lv h1 h3 := fun x y z => by
          by_cases e : x = 131
          · subst e
            rw [x4 y (by omega), c2 131 y (by omega)]
          · rw [x5 x y (by simp; omega) (by simp; omega), c2 x y (by omega)]
        have l3 : StL (B + 1 + dS left * phi la D.length t + 1) h3 := fun lv' hlv => by
          by_cases e : lv' = lv
          · subst e
            refine ⟨K0 + 1, by omega, by rw [x5 135 _ (by simp) (by simp), c2 135 _ (by omega)]; exact p6, fun i hi => ?_⟩
            rw [x5 134 _ (by simp) (by simp)]
            by_cases z : i = lmp T (qS q (bhn F T q j (D.getD t 0)))
            · rw [z, c2']; exact ⟨K0 + 1, Nat.le_refl _, rfl⟩
            · rw [c2 134 _ (by omega)]; exact p7 i hi
          · obtain ⟨Kv, v1, v2, v3⟩ := w3 lv' hlv
            refine ⟨Kv, by omega, by rw [x5 135 _ (by simp) (by simp), c2 135 _ (by omega)]; exact v2, fun i hi => ?_⟩
            rw [x5 134 _ (by simp) (by simp), c2 134 _ (by omega)]; exact v3 i hi
        have HD3 := (flw_ok (T := T) (l := lmp T (qS q (bhn F T q j (D.getD t 0)))) XX hj HD D.length (Nat.le_refl _)).1
        have M3 : HM F h3 := by unfold HM; rw [f23 103 1 (by omega)]; exact M1
        obtain ⟨r, h4, y1, y2, y3, y4⟩ := H (lv + 1) (flw F T q j (lmp T (qS q (bhn F T q j (D.getD t 0)))) D D.length) (B + 1 + dS left * phi la D.length t + 1) h3 (by omega) (by omega) (AM_w A1 f23) (XM_w X1 f23) M3 HD3 x2 ⟨⟨K + 1, by omega, x3⟩, l3⟩
        rw [y1, bI_s]
        have f14 : TmF lv h1 h4 := fun x y z => by rw [y4 x y (by omega)]; exact f23 x y z
        rw [flw_img] at y2
        rcases y2 with ⟨rfl, y2⟩ | ⟨rfl, y2⟩
        · rw [if_neg one10]
          refine ih (t + 1) fu h4 (by omega) (by omega) (fun s hs => ?_) (SMB_w y3 (by omega)) (TmF_t p5 f14) ?_ (fun i hi => ?_) (fun l hl' => ?_)
          · by_cases z : s = t
            · rw [z]; exact y2
            · exact p3 s (by omega)
          · rw [y4 135 lv (by omega), x5 135 _ (by simp) (by simp), c2 135 _ (by omega)]; exact p6
          · rw [y4 134 _ (by omega), x5 134 _ (by simp) (by simp)]
            by_cases z : i = lmp T (qS q (bhn F T q j (D.getD t 0)))
            · rw [z, c2']; exact ⟨K0 + 1, Nat.le_refl _, rfl⟩
            · rw [c2 134 _ (by omega)]; exact p7 i hi
          · rw [y4 134 _ (by omega), x5 134 _ (by simp) (by simp)]
            by_cases z : l = lmp T (qS q (bhn F T q j (D.getD t 0)))
            · rw [z, c2']; exact ⟨fun _ => ⟨t, by omega, rfl⟩, fun _ => rfl⟩
            · rw [c2 134 _ (by omega), p8 l hl']
              constructor
              · rintro ⟨s, s1, s2⟩; exact ⟨s, by omega, s2⟩
              · rintro ⟨s, s1, s2⟩
                by_cases y : s = t
                · rw [y] at s2; exact absurd s2.symm z
                · exact ⟨s, by omega, s2⟩
        · rw [if_pos rfl]
          exact ⟨0, h4, rfl, Or.inr ⟨rfl, fun c => y2 (c _)⟩, SMB_w y3 (by omega), TmF_t p5 f14⟩
  refine loop D.length 0 N _ (by omega) (by omega) (fun s hs => by omega) ?_ (fun x y z => c0 x y (by omega)) (by simp [hs_1]) (fun i hi => ?_) (fun l hl' => ?_)
  · obtain ⟨⟨K, w1, w2⟩, w3⟩ := SB
    refine ⟨⟨K, by omega, StM_q w2 (fun a b z => c0 a b (by omega))⟩, fun lv' hlv => ?_⟩
    by_cases e : lv' = lv
    · subst e
      refine ⟨K0 + 1, by omega, by simp [hs_1], fun i hi => ?_⟩
      rw [c0 134 _ (by omega)]
      obtain ⟨m, m1, m2⟩ := k3 i hi
      exact ⟨m, by omega, m2⟩
    · obtain ⟨Kv, v1, v2, v3⟩ := w3 lv' hlv
      exact ⟨Kv, by omega, by rw [c0 135 _ (by omega)]; exact v2, fun i hi => by rw [c0 134 _ (by omega)]; exact v3 i hi⟩
  · rw [c0 134 _ (by omega)]
    obtain ⟨m, m1, m2⟩ := k3 i hi
    exact ⟨m, by omega, m2⟩
  · rw [c0 134 _ (by omega)]
    obtain ⟨m, m1, m2⟩ := k3 l hl'
    rw [m2]
    exact ⟨fun z => by have := (nI_e32 (by omega) (by omega)).mp z; omega, fun ⟨s, z, _⟩ => by omega⟩
end
