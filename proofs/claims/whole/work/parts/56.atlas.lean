/-! the states that can come, in the order in which they are met: state, from, button, depth -/
def qE (q : List ((Nat × Nat × Nat) × Nat × Nat × Nat)) (i : Nat) : (Nat × Nat × Nat) × Nat × Nat × Nat := q.getD i ((0, 0, 0), 0, 0, 0)
def qS (q : List ((Nat × Nat × Nat) × Nat × Nat × Nat)) (i : Nat) : Nat × Nat × Nat := (qE q i).1
def qP (q : List ((Nat × Nat × Nat) × Nat × Nat × Nat)) (i : Nat) : Nat := (qE q i).2.1
def qJ (q : List ((Nat × Nat × Nat) × Nat × Nat × Nat)) (i : Nat) : Nat := (qE q i).2.2.1
def qD (q : List ((Nat × Nat × Nat) × Nat × Nat × Nat)) (i : Nat) : Nat := (qE q i).2.2.2
def qIx (q : List ((Nat × Nat × Nat) × Nat × Nat × Nat)) (s : Nat × Nat × Nat) : Nat := fa_first (fun i => decide (qS q i = s)) q.length
def bAdd (q : List ((Nat × Nat × Nat) × Nat × Nat × Nat)) (s : Nat × Nat × Nat) (p j d : Nat) : List ((Nat × Nat × Nat) × Nat × Nat × Nat) := if qIx q s < q.length then q else q ++ [(s, p, j, d)]
theorem qE_a {q : List ((Nat × Nat × Nat) × Nat × Nat × Nat)} {e : (Nat × Nat × Nat) × Nat × Nat × Nat} {i : Nat} (h : i < q.length) : qE (q ++ [e]) i = qE q i := by
  unfold qE
  rw [List.getD_eq_getElem?_getD, List.getD_eq_getElem?_getD, List.getElem?_append_left h]
theorem qE_n {q : List ((Nat × Nat × Nat) × Nat × Nat × Nat)} {e : (Nat × Nat × Nat) × Nat × Nat × Nat} : qE (q ++ [e]) q.length = e := by
  unfold qE
  simp [List.getD_eq_getElem?_getD]
section
variable {F : Nat} {q : List ((Nat × Nat × Nat) × Nat × Nat × Nat)} {s t : Nat × Nat × Nat}
theorem qIx_le : qIx q s ≤ q.length := fa_first_le _ _
theorem qIx_s (h : qIx q s < q.length) : qS q (qIx q s) = s := of_decide_eq_true (fa_first_yes (fun i => decide (qS q i = s)) q.length h)
theorem qIx_no {i : Nat} (h : i < qIx q s) : qS q i ≠ s := of_decide_eq_false (fa_first_no (fun i => decide (qS q i = s)) q.length i h)
def QD (F : Nat) (q : List ((Nat × Nat × Nat) × Nat × Nat × Nat)) : Prop := (∀ i, i < q.length → OkS F (qS q i)) ∧ ∀ i j, i < j → j < q.length → qS q i ≠ qS q j
theorem qIx_i (D : QD F q) {i : Nat} (h : i < q.length) : qIx q (qS q i) = i := by
  have l1 : ¬ i < qIx q (qS q i) := fun z => qIx_no z rfl
  have l2 := qIx_s (q := q) (s := qS q i) (by omega)
  by_cases g : qIx q (qS q i) = i
  · exact g
  · exact absurd l2 (D.2 _ i (by omega) h)
theorem qIx_eq (D : QD F q) {i : Nat} (h : i < q.length) (e : qS q i = s) : qIx q s = i := by rw [← e]; exact qIx_i D h
theorem qIx_w {i : Nat} (h : i < q.length) (e : qS q i = s) : qIx q s < q.length := by
  have : ¬ i < qIx q s := fun z => qIx_no z e
  omega
theorem ms_inj (h1 : OkS F s) (h2 : OkS F t) (hF : F ≤ 6) (e : msN s = msN t) : s = t := by
  obtain ⟨a, b, c⟩ := s
  obtain ⟨a2, b2, c2⟩ := t
  obtain ⟨x1, x2, x3⟩ := h1
  obtain ⟨y1, y2, y3⟩ := h2
  have e' : a + 256 * b + 1536 * c = a2 + 256 * b2 + 1536 * c2 := e
  dsimp only at x1 x2 x3 y1 y2 y3
  obtain rfl : a = a2 := by omega
  obtain rfl : c = c2 := by omega
  obtain rfl : b = b2 := by omega
  rfl
theorem cs_inj (h1 : OkS F s) (h2 : OkS F t) (hF : F ≤ 6) (e : csN s = csN t) : s = t := by
  obtain ⟨a, b, c⟩ := s
  obtain ⟨a2, b2, c2⟩ := t
  obtain ⟨x1, x2, x3⟩ := h1
  obtain ⟨y1, y2, y3⟩ := h2
  have e' : a + 256 * b + 2048 * c = a2 + 256 * b2 + 2048 * c2 := e
  dsimp only at x1 x2 x3 y1 y2 y3
  obtain rfl : a = a2 := by omega
  obtain rfl : c = c2 := by omega
  obtain rfl : b = b2 := by omega
  rfl
theorem QD_le (D : QD F q) (hF : F ≤ 6) : q.length ≤ 3072 := fb_holes 3072 q.length (fun i => msN (qS q i)) (fun i hi => ms_lt (D.1 i hi) hF) (fun i j h1 h2 e => D.2 i j h1 h2 (ms_inj (D.1 i (by omega)) (D.1 j h2) hF e))
theorem bAdd_in {p j d : Nat} (h : qIx q s < q.length) : bAdd q s p j d = q := if_pos h
theorem bAdd_new {p j d : Nat} (h : ¬ qIx q s < q.length) : bAdd q s p j d = q ++ [(s, p, j, d)] := if_neg h
theorem QD_add {p j d : Nat} (D : QD F q) (o : OkS F s) : QD F (bAdd q s p j d) := by
  by_cases g : qIx q s < q.length
  · rw [bAdd_in g]; exact D
  · rw [bAdd_new g]
    have sa : ∀ i, i < q.length → qS (q ++ [(s, p, j, d)]) i = qS q i := fun i hi => by unfold qS; rw [qE_a hi]
    have sn : qS (q ++ [(s, p, j, d)]) q.length = s := by unfold qS; rw [qE_n]
    refine ⟨fun i hi => ?_, fun i k h1 h2 => ?_⟩
    · rw [List.length_append, List.length_singleton] at hi
      by_cases e : i = q.length
      · rw [e, sn]; exact o
      · rw [sa i (by omega)]; exact D.1 i (by omega)
    · rw [List.length_append, List.length_singleton] at h2
      rw [sa i (by omega)]
      by_cases e : k = q.length
      · rw [e, sn]
        intro z
        exact g (qIx_w (by omega) z)
      · rw [sa k (by omega)]; exact D.2 i k h1 (by omega)
theorem qIx_add {p j d : Nat} (g : ¬ qIx q s < q.length) : qIx (q ++ [(s, p, j, d)]) t = if qIx q t < q.length then qIx q t else if t = s then q.length else q.length + 1 := by
  have sa : ∀ i, i < q.length → qS (q ++ [(s, p, j, d)]) i = qS q i := fun i hi => by unfold qS; rw [qE_a hi]
  have sn : qS (q ++ [(s, p, j, d)]) q.length = s := by unfold qS; rw [qE_n]
  have ln : (q ++ [(s, p, j, d)]).length = q.length + 1 := by simp
  have le := qIx_le (q := q ++ [(s, p, j, d)]) (s := t)
  rw [ln] at le
  have y : qIx (q ++ [(s, p, j, d)]) t < q.length + 1 → qS (q ++ [(s, p, j, d)]) (qIx (q ++ [(s, p, j, d)]) t) = t := fun z => qIx_s (by rw [ln]; exact z)
  have no : ∀ i, i < qIx (q ++ [(s, p, j, d)]) t → qS (q ++ [(s, p, j, d)]) i ≠ t := fun i => qIx_no
  generalize qIx (q ++ [(s, p, j, d)]) t = m at le y no ⊢
  by_cases g2 : qIx q t < q.length
  · rw [if_pos g2]
    have h1 : ¬ qIx q t < m := fun z => no _ z (by rw [sa _ g2]; exact qIx_s g2)
    have h2 : ¬ m < qIx q t := fun z => by
      have := y (by omega)
      rw [sa m (by omega)] at this
      exact qIx_no z this
    omega
  · rw [if_neg g2]
    have h2 : ¬ m < q.length := fun z => by
      have := y (by omega)
      rw [sa m z] at this
      exact g2 (qIx_w z this)
    by_cases e : t = s
    · rw [if_pos e]
      have h1 : ¬ q.length < m := fun z => no _ z (by rw [sn, e])
      omega
    · rw [if_neg e]
      have h3 : m ≠ q.length := fun z => by
        have := y (by omega)
        rw [z, sn] at this
        exact e this.symm
      omega
end
/-! what the two keep of them -/
def AC (F : Nat) (T : Nat → Int32 → Bool) (q : List ((Nat × Nat × Nat) × Nat × Nat × Nat)) (h : PH) : Prop := h.1 21 13 = nI q.length ∧ (∀ i, i < q.length → h.1 30 i = nI (csN (qS q i)) ∧ h.1 32 i = (if i = 0 then -1 else nI (qP q i)) ∧ h.1 33 i = nI (qJ q i) ∧ h.1 34 i = nI (qD q i) ∧ h.1 35 i = nI (lmp T (qS q i))) ∧ ∀ s, OkS F s → h.1 31 (csN s) = if qIx q s < q.length then nI (qIx q s) else -1
def AM (F : Nat) (T : Nat → Int32 → Bool) (q : List ((Nat × Nat × Nat) × Nat × Nat × Nat)) (h : PH) : Prop := h.1 103 38 = nI q.length ∧ (∀ i, i < q.length → h.1 124 i = nI (msN (qS q i)) ∧ h.1 125 (msN (qS q i)) = (if i = 0 then -1 else nI (msN (qS q (qP q i)))) ∧ h.1 126 (msN (qS q i)) = bu (qJ q i) ∧ h.1 127 (msN (qS q i)) = nI (qD q i) ∧ h.1 130 (msN (qS q i)) = nI (lmp T (qS q i))) ∧ ∀ s, OkS F s → h.1 128 (msN s) = if qIx q s < q.length then 1 else 0
section
variable {F N nv : Nat} {T : Nat → Int32 → Bool} {q : List ((Nat × Nat × Nat) × Nat × Nat × Nat)} {s : Nat × Nat × Nat}
theorem AC_q {h h' : PH} (A : AC F T q h) (e : ∀ a b, (a = 21 ∧ b = 13) ∨ (30 ≤ a ∧ a ≤ 35) → h'.1 a b = h.1 a b) : AC F T q h' := by
  obtain ⟨a1, a2, a3⟩ := A
  refine ⟨by rw [e 21 13 (by omega)]; exact a1, fun i hi => ?_, fun s o => by rw [e 31 _ (by omega)]; exact a3 s o⟩
  rw [e 30 i (by omega), e 32 i (by omega), e 33 i (by omega), e 34 i (by omega), e 35 i (by omega)]
  exact a2 i hi
theorem AM_q {h h' : PH} (A : AM F T q h) (e : ∀ a b, (a = 103 ∧ b = 38) ∨ (124 ≤ a ∧ a ≤ 128) ∨ a = 130 → h'.1 a b = h.1 a b) : AM F T q h' := by
  obtain ⟨a1, a2, a3⟩ := A
  refine ⟨by rw [e 103 38 (by omega)]; exact a1, fun i hi => ?_, fun s o => by rw [e 128 _ (by omega)]; exact a3 s o⟩
  rw [e 124 i (by omega), e 125 _ (by omega), e 126 _ (by omega), e 127 _ (by omega), e 130 _ (by omega)]
  exact a2 i hi
def FdS : List Nat := [20, 30, 31, 32, 33, 34, 35]
def FdK : List (Nat × Nat) := [(21, 13)]
theorem find_x {h : PH} {p j : Nat} (hN : 5000 ≤ N) (hF : F ≤ 6) (L : LnT T nv h) (A : AC F T q h) (D : QD F q) (o : OkS F s) (hp : 0 < q.length → p < q.length) : okI (F_X0_find N (nI (csN s)) (if q.length = 0 then -1 else nI p) (nI j) h) (fun v h' => v = nI (qIx q s) ∧ AC F T (bAdd q s p j (if q.length = 0 then 0 else qD q p + 1)) h' ∧ fq FdS FdK h h') := by
  have lt := cs_lt o hF
  have ql := QD_le D hF
  obtain ⟨a1, a2, a3⟩ := A
  unfold F_X0_find
  rw [if_neg (nI_pos (by omega)), if_pos ((n_lt_l 4096 (by omega) (by omega)).mpr lt), if_pos (nI_in0 lt (by omega)), nI_clamp (by omega), a3 s o]
  by_cases g : qIx q s < q.length
  · rw [if_pos g, if_neg (n_eq_m1 (by omega)), bAdd_in g]
    unfold F_X0_find_b127
    rw [if_pos (nI_in0 lt (by omega)), nI_clamp (by omega), a3 s o, if_pos g]
    refine okI_s ⟨?_, ⟨a1, a2, a3⟩, fq_0⟩
    unfold imax
    rw [if_neg (nI_pos (by omega))]
  · have gi : qIx q s = q.length := by have := qIx_le (q := q) (s := s); omega
    have ql2 : q.length + 1 ≤ 3072 := by
      have := QD_le (QD_add (p := 0) (j := 0) (d := 0) D o) hF
      rw [bAdd_new g] at this
      simpa using this
    have n1 : ∀ {k : PH}, (∀ b, k.1 21 b = h.1 21 b) → k.1 21 13 = nI q.length := fun e => by rw [e]; exact a1
    rw [if_neg g, if_pos rfl, a1, if_neg (fun z => by have := (l_le_n 3072 (by omega) (by omega)).mp z; omega), if_pos (nI_in0 (by omega) (by omega)), nI_clamp (by omega), hb_e, n1 (fun b => by simp [hs_1]), if_pos (nI_in0 (by omega) (by omega)), nI_clamp (by omega), hb_e, n1 (fun b => by simp [hs_1]), if_pos (nI_in0 (by omega) (by omega)), nI_clamp (by omega), hb_e]
    generalize hk1 : hs (hs (hs h 30 q.length (nI (csN s))) 32 q.length (if q.length = 0 then -1 else nI p)) 33 q.length (nI j) = k1
    have f1 : fq FdS FdK h k1 := by
      rw [← hk1]
      exact fq_s (fq_s (fq_s fq_0 (Or.inl (by decide))) (Or.inl (by decide))) (Or.inl (by decide))
    have e21 : k1.1 21 13 = nI q.length := n1 (fun b => by rw [← hk1]; simp [hs_1])
    have b89 : (if 0 ≤ (if q.length = 0 then (-1 : Int32) else nI p) then (if inb (if q.length = 0 then (-1 : Int32) else nI p) 3072 = true then F_X0_find_b89 N (nI (csN s)) ((k1.1 34 (if q.length = 0 then (-1 : Int32) else nI p).toNatClampNeg) + 1) (k1.1 21 13) k1 else none) else F_X0_find_b89 N (nI (csN s)) 0 (k1.1 21 13) k1) = F_X0_find_b89 N (nI (csN s)) (nI (if q.length = 0 then 0 else qD q p + 1)) (nI q.length) k1 := by
      rw [e21]
      by_cases z : q.length = 0
      · rw [if_pos z, if_neg (by decide), if_pos z]; rfl
      · have hp' := hp (by omega)
        rw [if_neg z, if_pos (nI_pos' (by omega)), if_pos (nI_in0 (by omega) (by omega)), nI_clamp (by omega), if_neg z, show k1.1 34 p = nI (qD q p) by rw [← hk1]; simp [hs_1]; exact (a2 p hp').2.2.2.1, nI_1]
    rw [b89]
    generalize (if q.length = 0 then 0 else qD q p + 1) = d
    unfold F_X0_find_b89
    rw [if_pos (nI_in0 (by omega) (by omega)), nI_clamp (by omega), hb_e]
    have f2 : fq FdS FdK h (hs k1 34 q.length (nI d)) := fq_s f1 (Or.inl (by decide))
    have L2 : LnT T nv (hs k1 34 q.length (nI d)) := LnT_q L (fun a b p => f2 a b (by unfold LnP at p; simp [FdS]; omega) (by unfold LnP at p; simp [FdK]; omega))
    obtain ⟨v, k3, e3, rfl, f3⟩ := lampsC hN L2 o hF
    have e21b : (hs k1 34 q.length (nI d)).1 21 13 = nI q.length := by simp [hs_1]; exact e21
    rw [e3, bI_s, e21b, if_pos (nI_in0 (by omega) (by omega)), nI_clamp (by omega), hb_e, if_pos (nI_in0 lt (by omega)), nI_clamp (by omega), hb_e, hb_e]
    have e21c : (hs k3 35 q.length (nI (lmp T s))).1 21 13 = nI q.length := by
      simp [hs_1]; rw [f3 21 (by simp)]; exact e21b
    rw [e21c]
    have e21d : (hs (hs k3 35 q.length (nI (lmp T s))) 31 (csN s) (nI q.length)).1 21 13 = nI q.length := by
      rw [hs_1, if_neg (by decide)]; exact e21c
    rw [e21d, nI_1]
    generalize hk4 : hs (hs (hs k3 35 q.length (nI (lmp T s))) 31 (csN s) (nI q.length)) 21 13 (nI (q.length + 1)) = k4
    have f4 : fq FdS FdK h k4 := by
      rw [← hk4]
      exact fq_s (fq_s (fq_s (fq_t f2 (fq_w (fq_fr (K := []) f3) (by simp [FdS]) (by simp))) (Or.inl (by decide))) (Or.inl (by decide))) (Or.inr (by decide))
    have c31 : ∀ c, k4.1 31 c = if c = csN s then nI q.length else h.1 31 c := fun c => by
      rw [← hk4]
      simp [hs_1]
      rw [f3 31 (by simp), ← hk1]
      simp [hs_1]
    unfold F_X0_find_b127
    rw [if_pos (nI_in0 lt (by omega)), nI_clamp (by omega), c31, if_pos rfl]
    refine okI_s ⟨?_, ⟨?_, fun i hi => ?_, fun t ot => ?_⟩, f4⟩
    · unfold imax
      rw [if_neg (nI_pos (by omega)), gi]
    · rw [bAdd_new g, ← hk4]
      simp [hs_1]
    · rw [bAdd_new g] at hi ⊢
      rw [List.length_append, List.length_singleton] at hi
      have cc : ∀ c, c = 30 ∨ c = 32 ∨ c = 33 → k4.1 c i = k1.1 c i := fun c hc => by
        rw [← hk4, hs_1, if_neg (by omega), hs_1, if_neg (by omega), hs_1, if_neg (by omega), f3 c (by simp; omega), hs_1, if_neg (by omega)]
      have c34 : k4.1 34 i = if i = q.length then nI d else h.1 34 i := by
        rw [← hk4]; simp [hs_1]; rw [f3 34 (by simp)]; simp [hs_1]; rw [← hk1]; simp [hs_1]
      have c35 : k4.1 35 i = if i = q.length then nI (lmp T s) else h.1 35 i := by
        rw [← hk4]; simp [hs_1]; rw [f3 35 (by simp)]; simp [hs_1]; rw [← hk1]; simp [hs_1]
      rw [cc 30 (by omega), cc 32 (by omega), cc 33 (by omega), c34, c35]
      unfold qS qP qJ qD
      by_cases e : i = q.length
      · subst e
        rw [qE_n, ← hk1]
        simp [hs_1]
      · rw [qE_a (by omega), if_neg e, if_neg e, ← hk1]
        simp [hs_1, e]
        exact a2 i (by omega)
    · rw [c31, bAdd_new g, qIx_add g, List.length_append, List.length_singleton]
      by_cases e : t = s
      · subst e
        rw [if_pos rfl, if_neg g, if_pos rfl, if_pos (by omega)]
      · rw [if_neg (fun z => e (cs_inj ot o hF z)), a3 t ot]
        by_cases y : qIx q t < q.length
        · rw [if_pos y, if_pos y, if_pos (by omega)]
        · rw [if_neg y, if_neg y, if_neg e, if_neg (by omega)]
def MtS : List Nat := [124, 125, 126, 127, 128, 130] ++ MvS
def MtK : List (Nat × Nat) := [(103, 36), (103, 38)]
theorem meets_x {h : PH} {p j : Nat} (hN : 5000 ≤ N) (hF : F ≤ 6) (L : LnT T nv h) (A : AM F T q h) (D : QD F q) (hP : ∀ i, 0 < i → i < q.length → qP q i < i) (o : OkS F s) (hp : 0 < q.length → p < q.length) (d : Nat) : okV (F_X12_meets N (nI (msN s)) (if q.length = 0 then -1 else nI (msN (qS q p))) (bu j) (nI d) h) (fun h' => AM F T (bAdd q s p j d) h' ∧ fq MtS MtK h h') := by
  have lt := ms_lt o hF
  have ql := QD_le D hF
  obtain ⟨a1, a2, a3⟩ := A
  unfold F_X12_meets
  rw [if_pos (nI_in0 lt (by omega)), nI_clamp (by omega), a3 s o]
  by_cases g : qIx q s < q.length
  · rw [if_pos g, if_neg (by decide), bAdd_in g]
    exact okV_s ⟨⟨a1, a2, a3⟩, fq_0⟩
  · have ql2 : q.length + 1 ≤ 3072 := by
      have := QD_le (QD_add (p := 0) (j := 0) (d := 0) D o) hF
      rw [bAdd_new g] at this
      simpa using this
    have e38 : (hs h 128 (msN s) (vp_nar .boolean 1)).1 103 38 = nI q.length := by simp [hs_1]; exact a1
    rw [if_neg g, if_pos rfl, if_pos (nI_in0 lt (by omega)), hb_e, e38, if_pos (nI_in0 (by omega) (by omega)), nI_clamp (by omega)]
    simp only [hb_e]
    rw [show vp_nar .boolean (1 : Int32) = 1 from by decide]
    generalize hk1 : hs (hs (hs (hs (hs h 128 (msN s) 1) 124 q.length (nI (msN s))) 125 (msN s) (if q.length = 0 then -1 else nI (msN (qS q p)))) 126 (msN s) (bu j)) 127 (msN s) (nI d) = k1
    have f1 : fq MtS MtK h k1 := by
      rw [← hk1]
      exact fq_s (fq_s (fq_s (fq_s (fq_s fq_0 (Or.inl (by decide))) (Or.inl (by decide))) (Or.inl (by decide))) (Or.inl (by decide))) (Or.inl (by decide))
    have L1 : LnT T nv k1 := LnT_q L (fun a b p => f1 a b (by unfold LnP at p; simp [MtS, MvS]; omega) (by unfold LnP at p; simp [MtK]; omega))
    obtain ⟨v, k2, e2, rfl, f2⟩ := lampsM hN L1 o hF
    rw [e2, bI_s]
    have e38b : (hs k2 130 (msN s) (nI (lmp T s))).1 103 38 = nI q.length := by
      simp [hs_1]
      rw [f2 103 38 (by simp [MvS]) (by simp [MvK]), ← hk1]
      simp [hs_1]
      exact a1
    rw [e38b, nI_1]
    generalize hk3 : hs (hs k2 130 (msN s) (nI (lmp T s))) 103 38 (nI (q.length + 1)) = k3
    have f3 : fq MtS MtK h k3 := by
      rw [← hk3]
      exact fq_s (fq_s (fq_t f1 (fq_w f2 (fun k z => List.mem_append_right _ z) (by simp [MvK, MtK]))) (Or.inl (by decide))) (Or.inr (by decide))
    have cc : ∀ c b, 124 ≤ c → c ≤ 128 → k3.1 c b = k1.1 c b := fun c b h1 h2 => by
      rw [← hk3, hs_1, if_neg (by omega), hs_1, if_neg (by omega), f2 c b (by simp [MvS]; omega) (by simp [MvK]; omega)]
    have c130 : ∀ b, k3.1 130 b = if b = msN s then nI (lmp T s) else h.1 130 b := fun b => by
      rw [← hk3]; simp [hs_1]; rw [f2 130 b (by simp [MvS]) (by simp [MvK]), ← hk1]; simp [hs_1]
    refine okV_s ⟨⟨?_, fun i hi => ?_, fun t ot => ?_⟩, f3⟩
    · rw [bAdd_new g, ← hk3]
      simp [hs_1]
    · rw [bAdd_new g] at hi ⊢
      rw [List.length_append, List.length_singleton] at hi
      rw [cc 124 i (by omega) (by omega), cc 125 _ (by omega) (by omega), cc 126 _ (by omega) (by omega), cc 127 _ (by omega) (by omega), c130]
      have sa : ∀ i, i < q.length → qS (q ++ [(s, p, j, d)]) i = qS q i := fun i hi => by unfold qS; rw [qE_a hi]
      by_cases e : i = q.length
      · subst e
        have sn : qS (q ++ [(s, p, j, d)]) q.length = s := by unfold qS; rw [qE_n]
        have pn : qP (q ++ [(s, p, j, d)]) q.length = p := by unfold qP; rw [qE_n]
        have jn' : qJ (q ++ [(s, p, j, d)]) q.length = j := by unfold qJ; rw [qE_n]
        have dn : qD (q ++ [(s, p, j, d)]) q.length = d := by unfold qD; rw [qE_n]
        rw [sn, pn, jn', dn, ← hk1]
        simp [hs_1]
        by_cases z : q.length = 0
        · have z' : q = [] := List.eq_nil_of_length_eq_zero z
          rw [if_pos z', if_pos z']
        · have z' : ¬ q = [] := fun y => z (by rw [y]; rfl)
          rw [if_neg z', if_neg z', sa p (hp (by omega))]
      · have ne : msN (qS q i) ≠ msN s := fun z => g (qIx_w (i := i) (by omega) (ms_inj (D.1 i (by omega)) o hF z))
        have pa : qP (q ++ [(s, p, j, d)]) i = qP q i := by unfold qP; rw [qE_a (by omega)]
        have ja : qJ (q ++ [(s, p, j, d)]) i = qJ q i := by unfold qJ; rw [qE_a (by omega)]
        have da : qD (q ++ [(s, p, j, d)]) i = qD q i := by unfold qD; rw [qE_a (by omega)]
        rw [sa i (by omega), pa, ja, da, if_neg ne, ← hk1]
        simp [hs_1, e, ne]
        obtain ⟨b1, b2, b3, b4, b5⟩ := a2 i (by omega)
        refine ⟨b1, ?_, b3, b4, b5⟩
        rw [b2]
        by_cases z : i = 0
        · rw [if_pos z, if_pos z]
        · rw [if_neg z, if_neg z, sa (qP q i) (by have := hP i (by omega) (by omega); omega)]
    · rw [cc 128 _ (by omega) (by omega), bAdd_new g, qIx_add g, List.length_append, List.length_singleton, ← hk1]
      simp [hs_1]
      by_cases e : t = s
      · subst e
        simp [g]
      · rw [if_neg (fun z => e (ms_inj ot o hF z)), a3 t ot]
        by_cases y : qIx q t < q.length
        · rw [if_pos y, if_pos y, if_pos (by omega)]
        · rw [if_neg y, if_neg y, if_neg e, if_neg (by omega)]
end
