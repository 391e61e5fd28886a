/-! the search on both sides -/
def bIn (F : Nat) (T : Nat → Int32 → Bool) (i : Nat) : Nat → List ((Nat × Nat × Nat) × Nat × Nat × Nat) → List ((Nat × Nat × Nat) × Nat × Nat × Nat)
  | 0, q => q
  | k + 1, q => bAdd (bIn F T i k q) (nxt F T (qS (bIn F T i k q) i) k).1 i k (qD (bIn F T i k q) i + 1)
def bOut (F : Nat) (T : Nat → Int32 → Bool) : Nat → Nat → List ((Nat × Nat × Nat) × Nat × Nat × Nat) → List ((Nat × Nat × Nat) × Nat × Nat × Nat)
  | 0, _, q => q
  | m + 1, i, q => if q.length ≤ i then q else bOut F T m (i + 1) (bIn F T i (F + 1) q)
def q0 : List ((Nat × Nat × Nat) × Nat × Nat × Nat) := [((0, 0, 0), 0, 0, 0)]
def qAll (F : Nat) (T : Nat → Int32 → Bool) : List ((Nat × Nat × Nat) × Nat × Nat × Nat) := bOut F T 3073 0 q0
def Ext (q q' : List ((Nat × Nat × Nat) × Nat × Nat × Nat)) : Prop := q.length ≤ q'.length ∧ ∀ i, i < q.length → qE q' i = qE q i
def QG (F : Nat) (q : List ((Nat × Nat × Nat) × Nat × Nat × Nat)) : Prop := QD F q ∧ (∀ i, 0 < i → i < q.length → qP q i < i ∧ qD q i = qD q (qP q i) + 1) ∧ (∀ i, i < q.length → qJ q i ≤ F) ∧ 0 < q.length ∧ qS q 0 = (0, 0, 0) ∧ qD q 0 = 0
section
variable {F N nv : Nat} {T : Nat → Int32 → Bool} {q q' : List ((Nat × Nat × Nat) × Nat × Nat × Nat)} {s : Nat × Nat × Nat}
theorem Ext_0 : Ext q q := ⟨Nat.le_refl _, fun _ _ => rfl⟩
theorem Ext_t {q2 : List ((Nat × Nat × Nat) × Nat × Nat × Nat)} (a : Ext q q') (b : Ext q' q2) : Ext q q2 := ⟨Nat.le_trans a.1 b.1, fun i hi => (b.2 i (Nat.lt_of_lt_of_le hi a.1)).trans (a.2 i hi)⟩
theorem Ext_add {p j d : Nat} : Ext q (bAdd q s p j d) := by
  by_cases g : qIx q s < q.length
  · rw [bAdd_in g]; exact Ext_0
  · rw [bAdd_new g]
    exact ⟨by simp, fun i hi => qE_a hi⟩
theorem Ext_S (e : Ext q q') {i : Nat} (h : i < q.length) : qS q' i = qS q i := by unfold qS; rw [e.2 i h]
theorem Ext_P (e : Ext q q') {i : Nat} (h : i < q.length) : qP q' i = qP q i := by unfold qP; rw [e.2 i h]
theorem Ext_J (e : Ext q q') {i : Nat} (h : i < q.length) : qJ q' i = qJ q i := by unfold qJ; rw [e.2 i h]
theorem Ext_D (e : Ext q q') {i : Nat} (h : i < q.length) : qD q' i = qD q i := by unfold qD; rw [e.2 i h]
theorem Ext_Ix (e : Ext q q') (D : QD F q') (h : qIx q s < q.length) : qIx q' s = qIx q s := qIx_eq D (Nat.lt_of_lt_of_le h e.1) (by rw [Ext_S e h]; exact qIx_s h)
theorem add_Ix {p j d : Nat} : qIx (bAdd q s p j d) s = qIx q s ∧ qIx q s < (bAdd q s p j d).length := by
  by_cases g : qIx q s < q.length
  · rw [bAdd_in g]; exact ⟨rfl, g⟩
  · have gi : qIx q s = q.length := by have := qIx_le (q := q) (s := s); omega
    rw [bAdd_new g, qIx_add g, if_neg g, if_pos rfl, gi]
    exact ⟨rfl, by simp⟩
theorem QG_add {p j : Nat} (G : QG F q) (o : OkS F s) (hp : p < q.length) (hj : j ≤ F) : QG F (bAdd q s p j (qD q p + 1)) := by
  obtain ⟨D, g2, g3, g4, g5, g6⟩ := G
  have E := Ext_add (q := q) (s := s) (p := p) (j := j) (d := qD q p + 1)
  refine ⟨QD_add D o, fun i h1 h2 => ?_, fun i h1 => ?_, Nat.lt_of_lt_of_le g4 E.1, by rw [Ext_S E g4]; exact g5, by rw [Ext_D E g4]; exact g6⟩
  · by_cases e : i < q.length
    · have := g2 i h1 e
      rw [Ext_P E e, Ext_D E e, Ext_D E (by omega)]
      exact this
    · by_cases g : qIx q s < q.length
      · rw [bAdd_in g] at h2; omega
      · rw [bAdd_new g] at h2 E ⊢
        rw [List.length_append, List.length_singleton] at h2
        obtain rfl : i = q.length := by omega
        have pn : qP (q ++ [(s, p, j, qD q p + 1)]) q.length = p := by unfold qP; rw [qE_n]
        have dn : qD (q ++ [(s, p, j, qD q p + 1)]) q.length = qD q p + 1 := by unfold qD; rw [qE_n]
        rw [pn, dn, Ext_D E hp]
        exact ⟨hp, rfl⟩
  · by_cases e : i < q.length
    · rw [Ext_J E e]; exact g3 i e
    · by_cases g : qIx q s < q.length
      · rw [bAdd_in g] at h1; omega
      · rw [bAdd_new g] at h1 ⊢
        rw [List.length_append, List.length_singleton] at h1
        obtain rfl : i = q.length := by omega
        have jn' : qJ (q ++ [(s, p, j, qD q p + 1)]) q.length = j := by unfold qJ; rw [qE_n]
        rw [jn']
        exact hj
theorem bIn_ok {i : Nat} (G : QG F q) (hi : i < q.length) : ∀ k, k ≤ F + 1 → QG F (bIn F T i k q) ∧ Ext q (bIn F T i k q) := by
  intro k
  induction k with
  | zero => intro _; exact ⟨G, Ext_0⟩
  | succ k ih =>
    intro hk
    obtain ⟨a, b⟩ := ih (by omega)
    unfold bIn
    have hi2 : i < (bIn F T i k q).length := Nat.lt_of_lt_of_le hi b.1
    exact ⟨QG_add a (nxt_ok (a.1.1 i hi2)).1 hi2 (by omega), Ext_t b Ext_add⟩
theorem bOut_ok : ∀ m i (q : List ((Nat × Nat × Nat) × Nat × Nat × Nat)), QG F q → QG F (bOut F T m i q) ∧ Ext q (bOut F T m i q) := by
  intro m
  induction m with
  | zero => intro i q G; exact ⟨G, Ext_0⟩
  | succ m ih =>
    intro i q G
    unfold bOut
    by_cases g : q.length ≤ i
    · rw [if_pos g]; exact ⟨G, Ext_0⟩
    · rw [if_neg g]
      obtain ⟨a, b⟩ := bIn_ok (T := T) (i := i) G (by omega) (F + 1) (Nat.le_refl _)
      obtain ⟨c, d⟩ := ih (i + 1) _ a
      exact ⟨c, Ext_t b d⟩
theorem QG_0 (hF : 0 < F) : QG F q0 := by
  refine ⟨⟨fun i hi => ?_, fun i j h1 h2 => ?_⟩, fun i h1 h2 => ?_, fun i h1 => ?_, by decide, rfl, rfl⟩
  · have : i = 0 := by simp [q0] at hi; exact hi
    subst this
    exact ⟨by decide, hF, by decide⟩
  · simp [q0] at h2; omega
  · simp [q0] at h2; omega
  · have : i = 0 := by simp [q0] at h1; exact h1
    subst this
    exact Nat.zero_le _
theorem qAll_G (hF : 0 < F) : QG F (qAll F T) := (bOut_ok 3073 0 q0 (QG_0 hF)).1
/-- what lies behind the first i states, and behind the next one with the first k buttons -/
def XF (F : Nat) (T : Nat → Int32 → Bool) (i k : Nat) (q : List ((Nat × Nat × Nat) × Nat × Nat × Nat)) : Prop := ∀ a b, b ≤ F → a < q.length → a < i ∨ (a = i ∧ b < k) → qIx q (nxt F T (qS q a) b).1 < q.length
def XC (F : Nat) (T : Nat → Int32 → Bool) (i k : Nat) (q : List ((Nat × Nat × Nat) × Nat × Nat × Nat)) (h : PH) : Prop := ∀ a b, b ≤ F → a < q.length → a < i ∨ (a = i ∧ b < k) → h.1 36 (a * 7 + b) = nI (qIx q (nxt F T (qS q a) b).1)
def XM (F : Nat) (T : Nat → Int32 → Bool) (i k : Nat) (q : List ((Nat × Nat × Nat) × Nat × Nat × Nat)) (h : PH) : Prop := ∀ a b, b ≤ F → a < q.length → a < i ∨ (a = i ∧ b < k) → h.1 129 (7 * msN (qS q a) + b) = nI (msN (nxt F T (qS q a) b).1)
theorem XF_s {i k : Nat} (G : QG F q) (hi : i < q.length) (hk : k ≤ F) (X : XF F T i k q) : XF F T i (k + 1) (bAdd q (nxt F T (qS q i) k).1 i k (qD q i + 1)) := by
  intro a b hb ha c
  have o : OkS F (nxt F T (qS q i) k).1 := (nxt_ok (G.1.1 i hi)).1
  have E := Ext_add (q := q) (s := (nxt F T (qS q i) k).1) (p := i) (j := k) (d := qD q i + 1)
  have D := QD_add (p := i) (j := k) (d := qD q i + 1) G.1 o
  have hal : a < q.length := by omega
  rw [Ext_S E hal]
  by_cases g : a = i ∧ b = k
  · rw [g.1, g.2, add_Ix.1]
    exact add_Ix.2
  · have x := X a b hb hal (by omega)
    rw [Ext_Ix E D x]
    exact Nat.lt_of_lt_of_le x E.1
def ExS : List Nat := 36 :: FdS
def ExK : List (Nat × Nat) := (21, 12) :: FdK
theorem bu_m {j : Nat} : nI j - 1 = bu j := by
  cases j with
  | zero => decide
  | succ j => exact nI_pred j
theorem bu_1 {j : Nat} : bu j + 1 = nI j := by
  cases j with
  | zero => decide
  | succ j => exact nI_1 j
theorem LnT_ex {h h' : PH} (L : LnT T nv h) (f : fq ExS ExK h h') : LnT T nv h' := LnT_q L (fun a b p => f a b (by unfold LnP at p; simp [ExS, FdS]; omega) (by unfold LnP at p; simp [ExK, FdK]; omega))
theorem HC_ex {h h' : PH} (L : HC F h) (f : fq ExS ExK h h') : HC F h' := by
  unfold HC
  rw [f 14 1 (by simp [ExS, FdS]) (by simp [ExK, FdK])]
  exact L
theorem ex81 {i : Nat} (hN : 5000 ≤ N) (hF : F ≤ 6) (G : QG F q) (hi : i < q.length) {rc : Int32 → PH → Option PH} : ∀ (fu j : Nat) (h : PH), j ≤ F + 1 → F + 1 < fu + j → LnT T nv h → HC F h → AC F T (bIn F T i j q) h → XC F T i j (bIn F T i j q) h → XF F T i j (bIn F T i j q) → ∃ h', F_X0_explore_b81 N rc fu (nI i) (nI j) h = F_X0_explore_b137 N rc (nI i) h' ∧ AC F T (bIn F T i (F + 1) q) h' ∧ XC F T i (F + 1) (bIn F T i (F + 1) q) h' ∧ XF F T i (F + 1) (bIn F T i (F + 1) q) ∧ fq ExS ExK h h' := by
  intro fu
  induction fu with
  | zero => intro j h h1 h2; omega
  | succ fu ih =>
    intro j h h1 h2 L C A X XX
    rw [F_X0_explore_b81, C]
    by_cases g : j = F + 1
    · subst g
      rw [if_pos (nI_lt (by omega) (by omega))]
      exact ⟨h, rfl, A, X, XX, fq_0⟩
    · obtain ⟨G1, E1⟩ := bIn_ok (T := T) G hi j h1
      have hi1 : i < (bIn F T i j q).length := Nat.lt_of_lt_of_le hi E1.1
      have ql := QD_le G1.1 hF
      have eq1 : bIn F T i (j + 1) q = bAdd (bIn F T i j q) (nxt F T (qS (bIn F T i j q) i) j).1 i j (qD (bIn F T i j q) i + 1) := rfl
      have XX1 := XF_s G1 hi1 (by omega) XX
      generalize bIn F T i j q = qq at A X XX XX1 G1 hi1 ql eq1
      have o := G1.1.1 i hi1
      have o2 : OkS F (nxt F T (qS qq i) j).1 := (nxt_ok o).1
      have bp : (nxt F T (qS qq i) j).2 < 2 := (nxt_ok o).2
      have cl := cs_lt o2 hF
      rw [if_neg (nI_nlt (by omega) (by omega)), if_pos (nI_in0 (by omega) (by omega)), nI_clamp (by omega), (A.2.1 i hi1).1, bu_m]
      obtain ⟨v, h3, e3, rfl, f3⟩ := stepC hN L C o hF (by omega : j ≤ F)
      rw [e3, bI_s, st3 (by omega), ib_e, show (csN (nxt F T (qS qq i) j).1 + 4096 * (nxt F T (qS qq i) j).2) % 4096 = csN (nxt F T (qS qq i) j).1 by omega]
      have f3' : fq ExS ExK h h3 := fq_w (fq_fr (K := []) f3) (by simp [ExS, FdS]) (by simp)
      have A3 : AC F T qq h3 := AC_q A (fun a b z => congrFun (f3 a (by simp; omega)) b)
      obtain ⟨v, h4, e4, rfl, A4, f4⟩ := find_x (j := j) (p := i) hN hF (LnT_20 L f3) A3 G1.1 o2 (fun _ => hi1)
      have nz : ¬ qq.length = 0 := by omega
      rw [if_neg nz] at e4 A4
      rw [e4, bI_s, show (7 : Int32) = nI 7 from rfl, pk_mul, nI_add, if_pos (nI_in0 (by omega) (by omega)), nI_clamp (by omega), hb_e, ib_e, nI_1]
      have f4' : fq ExS ExK h3 h4 := fq_w f4 (by simp [ExS, FdS]) (by simp [ExK, FdK])
      have f5 : fq ExS ExK h (hs h4 36 (i * 7 + j) (nI (qIx qq (nxt F T (qS qq i) j).1))) := fq_s (fq_t f3' f4') (Or.inl (by decide))
      have E := Ext_add (q := qq) (s := (nxt F T (qS qq i) j).1) (p := i) (j := j) (d := qD qq i + 1)
      have D := QD_add (p := i) (j := j) (d := qD qq i + 1) G1.1 o2
      obtain ⟨h', q1, q2, q3, q4, q5⟩ := ih (j + 1) (hs h4 36 (i * 7 + j) (nI (qIx qq (nxt F T (qS qq i) j).1))) (by omega) (by omega) (LnT_ex L f5) (HC_ex C f5) (by
        rw [eq1]
        exact AC_q A4 (fun a b z => by rw [hs_1, if_neg (by omega)])) (by
        rw [eq1]
        intro a b hb ha c
        have hal : a < qq.length := by omega
        rw [Ext_S E hal, hs_1, if_pos rfl]
        by_cases y : a = i ∧ b = j
        · rw [y.1, y.2, if_pos rfl, add_Ix.1]
        · rw [if_neg (by omega), Ext_Ix E D (XX a b hb hal (by omega)), f4 36 _ (by simp [FdS]) (by simp [FdK]), f3 36 (by simp)]
          exact X a b hb hal (by omega)) (by
        rw [eq1]
        exact XX1)
      exact ⟨h', q1, q2, q3, q4, fq_t f5 q5⟩
theorem XF_0 {i : Nat} (X : XF F T i (F + 1) q) : XF F T (i + 1) 0 q := fun a b hb ha c => X a b hb ha (by omega)
theorem ex64 (hN : 5000 ≤ N) (hF : F ≤ 6) : ∀ (k i m : Nat) (q : List ((Nat × Nat × Nat) × Nat × Nat × Nat)) (h : PH), i ≤ q.length → 3072 < k + i → 3072 < m + i → QG F q → LnT T nv h → HC F h → AC F T q h → XC F T i 0 q h → XF F T i 0 q → okV (F_X0_explore_b64 N k (nI i) h) (fun h' => AC F T (bOut F T m i q) h' ∧ XC F T (bOut F T m i q).length 0 (bOut F T m i q) h' ∧ XF F T (bOut F T m i q).length 0 (bOut F T m i q) ∧ h'.1 21 12 = 1 ∧ fq ExS ExK h h') := by
  intro k
  induction k with
  | zero => intro i m q h h1 h2 h3 G; have := QD_le G.1 hF; omega
  | succ k ih =>
    intro i m q h h1 h2 h3 G L C A X XX
    have ql := QD_le G.1 hF
    obtain ⟨m, rfl⟩ : ∃ m', m = m' + 1 := ⟨m - 1, by omega⟩
    rw [F_X0_explore_b64, A.1]
    unfold bOut
    by_cases g : q.length ≤ i
    · obtain rfl : i = q.length := by omega
      rw [if_pos (nI_le (Nat.le_refl _) (by omega)), if_pos g]
      unfold F_X0_explore_b143
      rw [hb_e]
      refine okV_s ⟨AC_q A (fun a b z => ?_), fun a b hb ha c => ?_, XX, by simp [hs_1], fq_s fq_0 (Or.inr (by decide))⟩
      · rw [hs_1]
        by_cases y : a = 21
        · rw [if_pos y, if_neg (by omega)]
        · rw [if_neg y]
      · rw [hs_1, if_neg (by decide)]
        exact X a b hb ha c
    · rw [if_neg (nI_ge (by omega) (by omega)), if_neg (fun z => by have := (l_le_n 3072 (by omega) (by omega)).mp z; omega), if_neg g]
      obtain ⟨h', e1, A1, X1, XX1, f1⟩ := ex81 (N := N) (T := T) (nv := nv) hN hF G (by omega : i < q.length) (rc := F_X0_explore_b64 N k) N 0 h (by omega) (by omega) L C A (fun a b hb ha c => X a b hb ha (by omega)) (fun a b hb ha c => XX a b hb ha (by omega))
      obtain ⟨G1, E1⟩ := bIn_ok (T := T) G (by omega : i < q.length) (F + 1) (Nat.le_refl _)
      rw [show F_X0_explore_b81 N (F_X0_explore_b64 N k) N (nI i) 0 h = _ from e1]
      unfold F_X0_explore_b137
      rw [ib_e, nI_1]
      refine okV_m (ih (i + 1) m _ h' (by have := E1.1; omega) (by omega) (by omega) G1 (LnT_ex L f1) (HC_ex C f1) A1 (fun a b hb ha c => X1 a b hb ha (by omega)) (XF_0 XX1)) (fun k2 z => ⟨z.1, z.2.1, z.2.2.1, z.2.2.2.1, fq_t f1 z.2.2.2.2⟩)
end
