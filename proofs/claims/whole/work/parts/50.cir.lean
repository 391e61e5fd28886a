/-! circuit() on both sides -/
def LnI (h : PH) : Prop := ∃ (tl : Nat → Bool) (EL CL : Nat → List Nat) (nv : Nat), h.1 15 1 = nI nv ∧ nv ≤ 6 ∧ (∀ l, l < 6 → (tl (19 + l) = true ↔ l < nv)) ∧ ∀ l, l < 25 → if tl l then Same false (EL l) (CL l) ∧ lnC 15 l (EL l) h ∧ h.1 105 l = 1 ∧ ∃ k, k + (CL l).length ≤ 1000 ∧ h.1 106 l = nI k ∧ h.1 107 l = nI (k + (CL l).length) ∧ cAt h k (CL l) else lnC 15 l [] h ∧ h.1 105 l = 0
/-- cells that reading uses, and nothing else looks at -/
def RdS : List Nat := [3, 4, 6, 7, 8, 10, 11, 12, 13, 108, 109, 110, 112, 113]
def RdK : List (Nat × Nat) := [(1, 1), (103, 0), (103, 2), (103, 4), (103, 5), (103, 6), (103, 7), (103, 9), (103, 10), (103, 18), (103, 19)]
/-- nothing else is changed by reading; of the codes nothing below 2000 -/
def RdF (h h' : PH) : Prop := fq (111 :: RdS) RdK h h' ∧ ∀ t, t < 2000 → h'.1 111 t = h.1 111 t
theorem RdF_t {h h' h2 : PH} (a : RdF h h') (b : RdF h' h2) : RdF h h2 := ⟨fq_t a.1 b.1, fun t ht => (b.2 t ht).trans (a.2 t ht)⟩
theorem RdF_q {S : List Nat} {K : List (Nat × Nat)} {h h' : PH} (f : fq S K h h') (h1 : ∀ k, k ∈ S → k ∈ RdS) (h2 : ∀ q, q ∈ K → q ∈ RdK ∨ q.1 ∈ 111 :: RdS) (h3 : 111 ∉ S) (h4 : ∀ t, (111, t) ∉ K) : RdF h h' := ⟨fq_w f (fun k q => List.mem_cons_of_mem _ (h1 k q)) h2, fun t _ => f 111 t h3 (h4 t)⟩
theorem RdF_L {h h' : PH} (f : FLr h h') : RdF h h' := ⟨fq_w f.1 (by simp [RdS]) (by simp [K6, RdK]), f.2⟩
theorem RdF_C {h h' : PH} (f : fq [6, 7, 8] KC h h') : RdF h h' := RdF_q f (by simp [RdS]) (by simp [KC, K5, RdK, RdS]) (by decide) (by simp [KC, K5])
theorem cir19 {N : Nat} : ∀ (k i : Nat) (h : PH), i ≤ 25 → 25 < k + i → ∃ h', F_X12_circuit_b19 N k (nI i) h = F_X12_circuit_b38 N h' ∧ (∀ l, i ≤ l → l < 25 → h'.1 108 l = 0) ∧ (∀ l, l < i → h'.1 108 l = h.1 108 l) ∧ fr [108] h h' ∧ h'.2 = h.2 := by
  intro k
  induction k with
  | zero => intro i h h1 h2; omega
  | succ k ih =>
    intro i h h1 h2
    rw [F_X12_circuit_b19]
    by_cases g : i = 25
    · subst g
      rw [if_pos (by decide)]
      exact ⟨h, rfl, fun l a b => by omega, fun _ _ => rfl, fr_0, rfl⟩
    · rw [if_neg (fun z => by have := (l_le_n 25 (by omega) (by omega)).mp z; omega), if_pos (nI_in0 (by omega) (by omega)), nI_clamp (by omega), hb_e, ib_e, nI_1, show vp_nar .boolean (0 : Int32) = 0 from by decide]
      obtain ⟨h', e1, e2, e3, e4, e5⟩ := ih (i + 1) (hs h 108 i 0) (by omega) (by omega)
      refine ⟨h', e1, fun l a b => ?_, fun l a => ?_, fr_t (fr_s fr_0 (by decide)) e4, e5⟩
      · by_cases q : l = i
        · rw [e3 l (by omega), q]; simp [hs_1]
        · exact e2 l (by omega) b
      · rw [e3 l (by omega), hs_1, if_pos rfl, if_neg (by omega)]
theorem takes_x {N n : Nat} {T : Nat → Nat} {h : PH} (B : TB (n, T)) (M : TpM (n, T) h) (hN : 2000 ≤ N) : okV (F_X12_takesTape N h) (fun h' => AtM n T (tkb n T 0) h' ∧ h'.1 103 2 = 0 ∧ fq [] [(103, 2), (103, 4), (103, 5), (103, 6), (103, 7), (103, 9)] h h') := by
  unfold F_X12_takesTape
  simp only [hb_e]
  have M1 : h.1 103 2 = nI n := M.1
  rw [M1]
  have f1 : fq [] [(103, 2), (103, 4), (103, 5), (103, 6), (103, 7), (103, 9)] h (hs (hs (hs h 103 4 (nI n)) 103 2 0) 103 5 0) := fq_s (fq_s (fq_s fq_0 (by decide)) (by decide)) (by decide)
  have R : RdM n T (hs (hs (hs h 103 4 (nI n)) 103 2 0) 103 5 0) := ⟨by simp [hs_1], fun j hj => by simp [hs_1]; exact M.2 j hj⟩
  refine okV_bV (okV_m (next_x B hN (Nat.zero_le n) R (by simp [hs_1, nI_0])) (fun h' q => okV_s ⟨q.1, ?_, fq_t f1 (fq_w q.2.1 (by simp) (by simp))⟩))
  rw [q.2.1 103 2 (by simp) (by decide)]
  simp [hs_1]
theorem cir56 {N : Nat} : ∀ (k i : Nat) (h : PH), i ≤ 25 → 25 < k + i → (∀ l, l < 25 → h.1 108 l = 0 ∨ h.1 108 l = 1) → ∃ h', F_X12_circuit_b56 N k (nI i) h = F_X12_circuit_b112 N h' ∧ (∀ l, i ≤ l → l < 25 → h'.1 105 l = h.1 108 l ∧ h'.1 106 l = h.1 109 l - 2000 ∧ h'.1 107 l = h.1 110 l - 2000) ∧ (∀ l, l < i ∨ 25 ≤ l → h'.1 105 l = h.1 105 l ∧ h'.1 106 l = h.1 106 l ∧ h'.1 107 l = h.1 107 l) ∧ fr [105, 106, 107] h h' ∧ h'.2 = h.2 := by
  intro k
  induction k with
  | zero => intro i h h1 h2; omega
  | succ k ih =>
    intro i h h1 h2 hz
    rw [F_X12_circuit_b56]
    by_cases g : i = 25
    · subst g
      rw [if_pos (by decide)]
      exact ⟨h, rfl, fun l a b => by omega, fun _ _ => ⟨rfl, rfl, rfl⟩, fr_0, rfl⟩
    · have nz : vp_nar .boolean (h.1 108 i) = h.1 108 i := by
        rcases hz i (by omega) with q | q <;> rw [q] <;> decide
      rw [if_neg (fun z => by have := (l_le_n 25 (by omega) (by omega)).mp z; omega), if_pos (nI_in0 (by omega) (by omega)), nI_clamp (by omega), nz]
      simp only [hb_e, ib_e]
      rw [nI_1]
      have e9 : (hs h 105 i (h.1 108 i)).1 109 i = h.1 109 i := by rw [hs_1, if_neg (by decide)]
      have e10 : (hs (hs h 105 i (h.1 108 i)) 106 i (h.1 109 i - 2000)).1 110 i = h.1 110 i := by rw [hs_1, if_neg (by decide), hs_1, if_neg (by decide)]
      rw [e9, e10]
      obtain ⟨h', q1, q2, q3, q4, q5⟩ := ih (i + 1) (hs (hs (hs h 105 i (h.1 108 i)) 106 i (h.1 109 i - 2000)) 107 i (h.1 110 i - 2000)) (by omega) (by omega) (fun l hl => by simp [hs_1]; exact hz l hl)
      refine ⟨h', q1, fun l a b => ?_, fun l a => ?_, fr_t (fr_s (fr_s (fr_s fr_0 (by decide)) (by decide)) (by decide)) q4, q5⟩
      · by_cases q : l = i
        · subst q
          obtain ⟨z1, z2, z3⟩ := q3 l (by omega)
          rw [z1, z2, z3]
          simp [hs_1]
        · have := q2 l (by omega) b
          simp [hs_1] at this
          exact this
      · obtain ⟨z1, z2, z3⟩ := q3 l (by omega)
        rw [z1, z2, z3]
        have : l ≠ i := by omega
        simp [hs_1, this]
theorem cir114 {N : Nat} : ∀ (k i : Nat) (h : PH), i ≤ 1000 → 1000 < k + i → ∃ h', F_X12_circuit_b114 N k (nI i) h = F_X12_circuit_b143 N h' ∧ (∀ t, i ≤ t → t < 1000 → h'.1 111 t = h.1 111 (2000 + t)) ∧ (∀ t, t < i ∨ 1000 ≤ t → h'.1 111 t = h.1 111 t) ∧ fr [111] h h' ∧ h'.2 = h.2 := by
  intro k
  induction k with
  | zero => intro i h h1 h2; omega
  | succ k ih =>
    intro i h h1 h2
    rw [F_X12_circuit_b114]
    by_cases g : i = 1000
    · subst g
      rw [if_pos (by decide)]
      exact ⟨h, rfl, fun l a b => by omega, fun _ _ => rfl, fr_0, rfl⟩
    · rw [if_neg (fun z => by have := (l_le_n 1000 (by omega) (by omega)).mp z; omega), show (2000 : Int32) = nI 2000 from rfl, nI_add, if_pos (nI_in0 (by omega) (by omega)), if_pos (nI_in0 (by omega) (by omega)), nI_clamp (by omega), nI_clamp (by omega), hb_e, ib_e, nI_1]
      obtain ⟨h', q1, q2, q3, q4, q5⟩ := ih (i + 1) (hs h 111 i (h.1 111 (2000 + i))) (by omega) (by omega)
      refine ⟨h', q1, fun t a b => ?_, fun t a => ?_, fr_t (fr_s fr_0 (by decide)) q4, q5⟩
      · by_cases q : t = i
        · subst q
          rw [q3 t (by omega)]
          simp [hs_1]
        · rw [q2 t (by omega) b, hs_1, if_pos rfl, if_neg (by omega)]
      · rw [q3 t (by omega), hs_1, if_pos rfl, if_neg (by omega)]
theorem TpM_o {n : Nat} {T : Nat → Nat} {h h' : PH} (M : TpM (n, T) h) (e : ∀ k j, (k = 103 ∧ j = 2) ∨ k = 104 → h'.1 k j = h.1 k j) : TpM (n, T) h' := ⟨by rw [e 103 2 (by omega)]; exact M.1, fun i hi => by rw [e 104 i (by omega)]; exact M.2 i hi⟩
/-- START, nothing THOUGHT, on both sides -/
def St0 (h : PH) : Prop := h.1 14 2 = 0 ∧ h.1 14 3 = 0 ∧ h.1 14 4 = 0 ∧ h.1 21 12 = 0 ∧ h.1 39 0 = 0 ∧ h.1 39 1 = 0 ∧ h.1 39 12 = 0 ∧ h.1 103 33 = 0 ∧ h.1 103 34 = 0 ∧ h.1 103 35 = 0 ∧ h.1 103 37 = 0 ∧ h.1 103 46 = 0
def St0K : List (Nat × Nat) := [(14, 2), (14, 3), (14, 4), (21, 12), (39, 0), (39, 1), (39, 12), (103, 33), (103, 34), (103, 35), (103, 37), (103, 46)]
def ClS : List Nat := [15, 17, 18, 19, 105]
theorem P_circuit {N F : Nat} (hN : 5000 ≤ N) (hF2 : 2 ≤ F) (hF : F ≤ 6) {h : PH} (HFc : HC F h) (HFm : HM F h) (I : TI h) : ∃ r h1 h2, F_X11_circuit N h = some (r, h1) ∧ F_X12_circuit N h1 = some (r, h2) ∧ TI h2 ∧ ((¬ r = 0 ∧ RdF h h2) ∨ (r = 0 ∧ LnI h2 ∧ St0 h2 ∧ fq (106 :: 107 :: 111 :: ClS ++ RdS) (St0K ++ RdK) h h2 ∧ (∀ t, 1000 ≤ t → t < 2000 → h2.1 111 t = h.1 111 t) ∧ h2.1 106 25 = h.1 106 25 ∧ h2.1 107 25 = h.1 107 25)) := by
  obtain ⟨⟨n, T⟩, B, C, M⟩ := I
  have b1 : n ≤ 1000 := B.1
  -- the class's start
  obtain ⟨k1, s1, m, S1, d1, d7, t1, f1⟩ := start_x (r := false) (F := F) B C (by omega : 2000 ≤ N) hF
  have R1 : RdF h k1 := RdF_q f1 (by simp [RdS]) (by simp [RdK]) (by decide) (by simp)
  have L1 : DrL (fun _ => false) (fun _ => []) 0 [] k1 := ⟨by rw [d1]; rfl, by omega, fun l hl => by simp, fun l hl => by simp; exact d7 l hl⟩
  -- the reference's, from any heap that agrees on its cells
  have mst : ∀ k : PH, (∀ a b, 103 ≤ a → k.1 a b = h.1 a b) → ∃ k2, F_X12_circuit N k = (bI (F_X12_readsCircuit N k2) fun r3 h4 => if r3 = 0 then some (h4.1 103 10, h4) else F_X12_circuit_b56 N N 0 h4) ∧ MaS n T m false F 2000 2000 0 [] k2 ∧ MlL (fun _ => false) (fun _ => []) 2000 k2 ∧ k2.1 103 2 = 0 ∧ (∀ a b, a < 103 → k2.1 a b = k.1 a b) ∧ RdF k k2 := by
    intro k hk
    unfold F_X12_circuit
    simp only [hb_e]
    obtain ⟨h', e1, e2, e3, e4, e5⟩ := cir19 (N := N) N 0 (hs (hs (hs k 103 0 0) 103 19 0) 103 18 2000) (by omega) (by omega)
    rw [show F_X12_circuit_b19 N N 0 (hs (hs (hs k 103 0 0) 103 19 0) 103 18 2000) = _ from e1]
    unfold F_X12_circuit_b38
    have M' : TpM (n, T) h' := TpM_o M (fun a b q => by
      rw [e4 a (by rcases q with ⟨rfl, rfl⟩ | rfl <;> decide)]
      simp only [hs_1]
      rcases q with ⟨rfl, rfl⟩ | rfl
      · simp; exact hk 103 2 (by omega)
      · simp; exact hk 104 b (by omega))
    obtain ⟨k2, e6, A2, t2, f2⟩ := takes_x B M' (by omega : 2000 ≤ N)
    rw [e6, bV_s]
    have o : ∀ a b, a ≠ 103 → a ≠ 108 → k2.1 a b = k.1 a b := fun a b q1 q2 => by
      rw [f2 a b (by simp) (by simp [q1]), e4 a (by simp [q2])]
      simp [hs_1, q1]
    refine ⟨k2, rfl, ⟨A2, Nat.zero_le _, ?_, ?_, ?_, fun t ht => by simp at ht, by simp, by omega, b1, hF, S1.1.1.1, S1.1.1.2.1, S1.1.1.2.2.1⟩, fun l hl => ?_, t2, fun a b q => o a b (by omega) (by omega), ?_⟩
    · rw [f2 103 1 (by simp) (by decide), e4 103 (by decide)]; simp [hs_1]; rw [hk 103 1 (by omega)]; exact HFm
    · rw [f2 103 19 (by simp) (by decide), e4 103 (by decide)]; simp [hs_1]
    · rw [f2 103 18 (by simp) (by decide), e4 103 (by decide)]; simp [hs_1]; rfl
    · simp
      rw [f2 108 l (by simp) (by simp)]
      exact e2 l (by omega) hl
    · refine RdF_t (RdF_q (S := []) (K := [(103, 0), (103, 19), (103, 18)]) (fq_s (fq_s (fq_s fq_0 (Or.inr (by decide))) (Or.inr (by decide))) (Or.inr (by decide))) (by simp) (by simp [RdK]) (by simp) (by simp)) (RdF_t (RdF_q (S := [108]) (K := []) (fq_fr e4) (by simp [RdS]) (by simp) (by simp) (by simp)) (RdF_q f2 (by simp) (by simp [RdK]) (by simp) (by simp)))
  -- both loops do not see each other's cells: first what the class does
  have ci : ∀ a b, 103 ≤ a → k1.1 a b = h.1 a b := fun a b q => f1 a b (by simp; omega) (by simp; omega)
  obtain ⟨k2, -, M2, ML2, -, -, -⟩ := mst k1 ci
  have bl := fun (k2 : PH) (M2 : MaS n T m false F 2000 2000 0 [] k2) (ML2 : MlL (fun _ => false) (fun _ => []) 2000 k2) => both_l (N := N) B hN m 0 0 N N [] (fun _ => false) (fun _ => []) (fun _ => []) 0 2000 k1 k2 (by omega) (by omega) (by have := S1.1.1.1; omega) (by have := S1.1.1.1; omega) (by simp) S1 L1 M2 ML2 (fun l q => by cases q) (by omega) (by omega)
  have rc : F_X5_readCircuit N (h.1 14 1) h = F_X5_readCircuit_b8 N N (nI 0) k1 := by
    unfold F_X5_readCircuit
    rw [HFc, show F_X5_start N 0 (nI F) h = _ from s1, bV_s]
    rfl
  rcases bl k2 M2 ML2 with ⟨e, c1, -, e0, e1, e2, -, -, f3, -⟩ | ⟨D', tl', EL', CL', nv', c0', c1, -, e2, -, q3, q4, q5, -, -, -, -, f3, -⟩
  · -- a FAULT
    have ci2 : ∀ a b, 103 ≤ a → c1.1 a b = h.1 a b := fun a b q => by
      rw [f3 a b (by simp; omega) (by simp [KC, K5]; omega)]
      exact ci a b q
    obtain ⟨j2, g1, M2, ML2, t2, lo2, R2⟩ := mst c1 ci2
    rcases bl j2 M2 ML2 with ⟨e', c1', j3, e0', e1', e2', e3', e4', -, f4⟩ | ⟨-, -, -, -, -, -, c1', -, e2', -⟩
    · rw [e2] at e2'
      obtain ⟨z1, z2⟩ : nI e = nI e' ∧ c1 = c1' := by injection e2' with z; exact Prod.mk.inj z
      have R3 := RdF_L f4
      refine ⟨nI e, c1, j3, ?_, ?_, ⟨(0, T), ⟨by simp, fun i hi => by simp at hi⟩, ⟨?_, fun i hi => by simp at hi⟩, ⟨?_, fun i hi => by simp at hi⟩⟩, Or.inl ⟨nI_ne0 e0 e1, RdF_t R1 (RdF_t (RdF_C f3) (RdF_t R2 R3))⟩⟩
      · unfold F_X11_circuit
        rw [rc, e2, bI_s, if_neg (nI_ne0 e0 e1)]
      · rw [g1]
        unfold F_X12_readsCircuit
        rw [show F_X12_readsCircuit_b2 N N 0 j2 = _ from e3', bI_s, if_pos rfl, e4', z1]
      · rw [f4.1 1 1 (by decide) (by decide), lo2 1 1 (by omega), f3 1 1 (by decide) (by decide)]; exact t1
      · rw [f4.1 103 2 (by decide) (by decide), t2]; rfl
    · rw [e2] at e2'
      obtain ⟨z1, z2⟩ : nI e = 0 ∧ c1 = c1' := by injection e2' with z; exact Prod.mk.inj z
      exact absurd z1 (nI_ne0 e0 e1)
  · -- none
    have s6 : c1.1 4 6 = nI D'.length := q4.2.2.2.2.2.2.1
    obtain ⟨h5, e5, p1, p2, p3, f5⟩ := copy_x (o := 15) (Or.inl rfl) s6 q3
    have st : F_X11_startCircuit h5 = some (hs (hs (hs (hs (hs (hs (hs h5 14 2 0) 14 3 0) 14 4 0) 21 12 0) 39 0 0) 39 1 0) 39 12 0) := rfl
    generalize hH : hs (hs (hs (hs (hs (hs (hs h5 14 2 0) 14 3 0) 14 4 0) 21 12 0) 39 0 0) 39 1 0) 39 12 0 = H1 at st
    have fH : fq [] St0K h5 H1 := by
      rw [← hH]
      exact fq_s (fq_s (fq_s (fq_s (fq_s (fq_s (fq_s fq_0 (by decide)) (by decide)) (by decide)) (by decide)) (by decide)) (by decide)) (by decide)
    have z0 : H1.1 14 2 = 0 ∧ H1.1 14 3 = 0 ∧ H1.1 14 4 = 0 ∧ H1.1 21 12 = 0 ∧ H1.1 39 0 = 0 ∧ H1.1 39 1 = 0 ∧ H1.1 39 12 = 0 := by
      rw [← hH]
      refine ⟨?_, ?_, ?_, ?_, ?_, ?_, ?_⟩ <;> simp [hs_1]
    have oH : ∀ a b, a ≠ 14 → a ≠ 21 → a ≠ 39 → H1.1 a b = h5.1 a b := fun a b q1 q2 q3 => by
      rw [← hH]
      simp [hs_1, q1, q2, q3]
    have ci2 : ∀ a b, 103 ≤ a → H1.1 a b = h.1 a b := fun a b q => by
      rw [oH a b (by omega) (by omega) (by omega), f5 a b (by simp; omega) (by simp), f3 a b (by simp; omega) (by simp [KC, K5]; omega)]
      exact ci a b q
    obtain ⟨j2, g1, M2, ML2, t2, lo2, R2⟩ := mst H1 ci2
    rcases bl j2 M2 ML2 with ⟨e', c1', j3, e0', e1', e2', e3', e4', -, f4⟩ | ⟨D2, tl2, EL2, CL2, nv2, c2, c1', j3, e2', e3', q3', q4', q5', q6', q7', q8', q9', -, f4⟩
    · rw [e2] at e2'
      obtain ⟨z1, z2⟩ : (0 : Int32) = nI e' ∧ c1 = c1' := by injection e2' with z; exact Prod.mk.inj z
      exact absurd z1.symm (nI_ne0 e0' e1')
    · rw [e2] at e2'
      have z2 : c1 = c1' := by injection e2' with z; exact (Prod.mk.inj z).2
      subst z2
      have s6' : c1.1 4 6 = nI D2.length := q4'.2.2.2.2.2.2.1
      have lenD : D'.length = D2.length := by
        rw [s6] at s6'
        exact (nI_eq (by omega) (by omega)).mp s6'
      -- the reference's copies
      have hz : ∀ l, l < 25 → j3.1 108 l = 0 ∨ j3.1 108 l = 1 := fun l hl => by
        have := q6' l hl
        by_cases g : tl2 l = true
        · rw [if_pos g] at this; exact Or.inr this.1
        · rw [if_neg g] at this; exact Or.inl this
      obtain ⟨j4, a1, a2, a3, a4, -⟩ := cir56 (N := N) N 0 j3 (by omega) (by omega) hz
      obtain ⟨j5, b1', b2, b3, b4, -⟩ := cir114 (N := N) N 0 j4 (by omega) (by omega)
      have e143 : F_X12_circuit_b143 N j5 = some (0, hs (hs (hs (hs (hs j5 103 33 0) 103 34 0) 103 35 0) 103 37 0) 103 46 0) := rfl
      generalize hJ : hs (hs (hs (hs (hs j5 103 33 0) 103 34 0) 103 35 0) 103 37 0) 103 46 0 = J at e143
      have fJ : fq [] St0K j5 J := by
        rw [← hJ]
        exact fq_s (fq_s (fq_s (fq_s (fq_s fq_0 (by decide)) (by decide)) (by decide)) (by decide)) (by decide)
      have zJ : J.1 103 33 = 0 ∧ J.1 103 34 = 0 ∧ J.1 103 35 = 0 ∧ J.1 103 37 = 0 ∧ J.1 103 46 = 0 := by
        rw [← hJ]
        refine ⟨?_, ?_, ?_, ?_, ?_⟩ <;> simp [hs_1]
      have oJ : ∀ a b, a ≠ 103 → J.1 a b = j5.1 a b := fun a b q1 => by
        rw [← hJ]
        simp [hs_1, q1]
      have loJ : ∀ a b, a < 103 → J.1 a b = H1.1 a b := fun a b q => by
        rw [oJ a b (by omega), b4 a (by simp; omega), a4 a (by simp; omega), f4.1 a b (by simp; omega) (by simp [K6]; omega), lo2 a b q]
      refine ⟨0, H1, J, ?_, ?_, ⟨(0, T), ⟨by simp, fun i hi => by simp at hi⟩, ⟨?_, fun i hi => by simp at hi⟩, ⟨?_, fun i hi => by simp at hi⟩⟩, Or.inr ⟨rfl, ?_, ?_, ?_, ?_, ?_, ?_⟩⟩
      · unfold F_X11_circuit
        rw [rc, e2, bI_s, if_pos rfl, e5, bV_s, st, bV_s]
      · rw [g1]
        unfold F_X12_readsCircuit
        rw [show F_X12_readsCircuit_b2 N N 0 j2 = _ from e3', bI_s, if_neg (by decide), show F_X12_circuit_b56 N N 0 j3 = _ from a1]
        unfold F_X12_circuit_b112
        rw [show F_X12_circuit_b114 N N 0 j4 = _ from b1', e143]
      · rw [loJ 1 1 (by omega), oH 1 1 (by omega) (by omega) (by omega), f5 1 1 (by decide) (by simp), f3 1 1 (by decide) (by decide)]; exact t1
      · rw [fJ 103 2 (by simp) (by decide), b4 103 (by decide), a4 103 (by decide), f4.1 103 2 (by decide) (by decide), t2]; rfl
      · refine ⟨tl2, EL2, CL2, nv2, ?_, q5'.2.1, q5'.2.2.1, fun l hl => ?_⟩
        · rw [loJ 15 1 (by omega), oH 15 1 (by omega) (by omega) (by omega), p3]; exact q5'.1
        · have dl := q5'.2.2.2 l hl
          have ml := q6' l hl
          have cl := a2 l (by omega) hl
          have o5 : ∀ a b, a = 105 ∨ a = 106 ∨ a = 107 → J.1 a b = j4.1 a b := fun a b q => by rw [oJ a b (by omega), b4 a (by simp; omega)]
          have c17 : ∀ t, t < D2.length → J.1 17 t = nI (D2.getD t 0) := fun t ht => by
            rw [loJ 17 t (by omega), oH 17 t (by omega) (by omega) (by omega), p1 t (by omega)]
            exact q4'.2.2.2.2.2.2.2.2 t ht
          have c18 : J.1 18 l = c1.1 7 l := by rw [loJ 18 l (by omega), oH 18 l (by omega) (by omega) (by omega), (p2 l hl).1]
          have c19 : J.1 19 l = c1.1 8 l := by rw [loJ 19 l (by omega), oH 19 l (by omega) (by omega) (by omega), (p2 l hl).2]
          by_cases g : tl2 l = true
          · rw [if_pos g] at dl ml ⊢
            obtain ⟨bb, d0, d1', d2, d3, d4⟩ := dl
            obtain ⟨m0, kk, m1, m2, m3, m4, m5⟩ := ml
            refine ⟨q7' l g, ⟨bb, by omega, by rw [c18]; exact d2, by rw [c19]; exact d3, fun t ht => ?_⟩, ?_, kk - 2000, by omega, ?_, ?_, fun t ht => ?_⟩
            · rw [c17 (bb + t) (by omega), d4 t ht]
            · rw [o5 105 l (by omega), cl.1, m0]
            · rw [o5 106 l (by omega), cl.2.1, m3, show (2000 : Int32) = nI 2000 from rfl, pk_sub (by omega)]
            · rw [o5 107 l (by omega), cl.2.2, m4, show (2000 : Int32) = nI 2000 from rfl, pk_sub (by omega), show kk + (CL2 l).length - 2000 = kk - 2000 + (CL2 l).length by omega]
            · rw [oJ 111 _ (by omega), b2 _ (by omega) (by omega), a4 111 (by decide), show 2000 + (kk - 2000 + t) = kk + t by omega]
              exact m5 t ht
          · rw [if_neg g] at dl ml ⊢
            refine ⟨⟨0, by simp, by rw [c18]; exact dl.1, by rw [c19, dl.2]; rfl, fun t ht => by simp at ht⟩, ?_⟩
            rw [o5 105 l (by omega), cl.1, ml]
      · refine ⟨?_, ?_, ?_, ?_, ?_, ?_, ?_, zJ.1, zJ.2.1, zJ.2.2.1, zJ.2.2.2.1, zJ.2.2.2.2⟩
        · rw [loJ 14 2 (by omega)]; exact z0.1
        · rw [loJ 14 3 (by omega)]; exact z0.2.1
        · rw [loJ 14 4 (by omega)]; exact z0.2.2.1
        · rw [loJ 21 12 (by omega)]; exact z0.2.2.2.1
        · rw [loJ 39 0 (by omega)]; exact z0.2.2.2.2.1
        · rw [loJ 39 1 (by omega)]; exact z0.2.2.2.2.2.1
        · rw [loJ 39 12 (by omega)]; exact z0.2.2.2.2.2.2
      · have w1 : ∀ {a b : PH}, RdF a b → fq (106 :: 107 :: 111 :: ClS ++ RdS) (St0K ++ RdK) a b := fun f => fq_w f.1 (fun k q => by
          rcases List.mem_cons.mp q with rfl | q
          · simp
          · exact List.mem_append_right _ q) (fun q z => Or.inl (List.mem_append_right _ z))
        have w2 : ∀ {a b : PH}, fq [] St0K a b → fq (106 :: 107 :: 111 :: ClS ++ RdS) (St0K ++ RdK) a b := fun f => fq_w f (by simp) (fun q z => Or.inl (List.mem_append_left _ z))
        exact fq_t (w1 R1) (fq_t (w1 (RdF_C f3)) (fq_t (fq_w f5 (by simp [ClS]) (by simp)) (fq_t (w2 fH) (fq_t (w1 R2) (fq_t (w1 (RdF_L f4)) (fq_t (fq_w (fq_fr (K := []) a4) (by simp [ClS]) (by simp)) (fq_t (fq_w (fq_fr (K := []) b4) (by simp) (by simp)) (w2 fJ))))))))
      · intro t h1 h2
        rw [oJ 111 t (by omega), b3 t (by omega), a4 111 (by decide), f4.2 t h2, R2.2 t h2, ci2 111 t (by omega)]
      · rw [oJ 106 25 (by omega), b4 106 (by decide), (a3 25 (by omega)).2.1, f4.1 106 25 (by decide) (by decide), R2.1 106 25 (by decide) (by decide), ci2 106 25 (by omega)]
      · rw [oJ 107 25 (by omega), b4 107 (by decide), (a3 25 (by omega)).2.2, f4.1 107 25 (by decide) (by decide), R2.1 107 25 (by decide) (by decide), ci2 107 25 (by omega)]
