/-! a run in the class's cells -/
def cm (k : Nat) : Nat := if k = 0 then 1 else if k = 1 then 2 else if k = 2 then 3 else if k = 3 then 5 else k + 3
def TrB (o : Nat) (S : TSt) (h : PH) : Prop := ∀ k, k < 9 → h.1 (o + cm k) = S k
def TrSt (q : Nat → Nat) (u : Nat → Nat → Nat) (o : Nat) (S : TSt) (h : PH) : Prop := (∀ c, c < 2 → Mk (h.1 (o + 12) c) (q 5) (ins S c) ∧ Mk (h.1 (o + 13) c) (q 5) (wtg S c)) ∧ (∀ f, f < 6 → Mk (h.1 (o + 14) f) (q 5) (fun i => decide (u 1 i = f)) ∧ Mk (h.1 (o + 15) f) (q 5) (fun i => decide (u 2 i = f))) ∧ Mk (h.1 o 18) (q 5) (fun i => decide (S 2 i < 0))
def TrC (q : Nat → Nat) (u : Nat → Nat → Nat) (o : Nat) (S : TSt) (h : PH) : Prop := h.1 o 6 = nI (q 1) ∧ h.1 o 7 = nI (q 5) ∧ TrB o S h ∧ TrSt q u o S h
def TF (o : Nat) (h h' : PH) : Prop := ∀ a b, ((a < o ∨ o + 15 < a) ∧ a ≠ 59 ∧ a ≠ 63) ∨ (a = o ∧ b ≠ 18) → h'.1 a b = h.1 a b
def PqC (q : Nat → Nat) (u : Nat → Nat → Nat) (h : PH) : Prop := h.1 51 7 = nI (q 0) ∧ h.1 51 8 = nI (q 1) ∧ h.1 51 9 = nI (q 2) ∧ h.1 51 10 = nI (q 3) ∧ h.1 51 11 = nI (q 4) ∧ h.1 51 12 = nI (q 5) ∧ h.1 51 13 = nI (q 6) ∧ h.1 51 14 = bu (q 7) ∧ (∀ i, i < q 5 → h.1 52 i = nI (u 0 i) ∧ h.1 53 i = nI (u 1 i) ∧ h.1 54 i = nI (u 2 i)) ∧ ∀ i, i < q 6 → h.1 55 i = nI (u 3 i) ∧ h.1 56 i = nI (u 4 i) ∧ h.1 57 i = nI (u 5 i)
def RwC (v : (Nat → Int32) → Int32) (h : PH) : Prop := (∀ fa fb, (∀ a, a < 10 → fa a = fb a) → v fa = v fb) ∧ ∃ E, (∀ x, x ∈ E → x < 2147483648) ∧ lnC 58 0 E h ∧ ∀ fa, ∃ st, rpn (lfC 0 fa) E [] = some st ∧ v fa = (if st.length = 1 then st.headD 0 else 0)
section
variable {q : Nat → Nat} {u : Nat → Nat → Nat} {v : (Nat → Int32) → Int32} {way : Int32} {S : TSt} {o : Nat} {h h' h2 : PH}
theorem TF_0 : TF o h h := fun _ _ _ => rfl
theorem TF_t (a : TF o h h') (b : TF o h' h2) : TF o h h2 := fun x y z => (b x y z).trans (a x y z)
theorem TF_s {k j : Nat} {x : Int32} (a : TF o h h') (e : (o < k ∧ k ≤ o + 15) ∨ k = 59 ∨ k = 63 ∨ (k = o ∧ j = 18)) (ho : 64 ≤ o) : TF o h (hs h' k j x) := fun c d z => by
  rw [hs_1]
  by_cases e1 : c = k
  · by_cases e2 : d = j
    · omega
    · rw [if_pos e1, if_neg e2]; exact a c d z
  · rw [if_neg e1]; exact a c d z
theorem PqC_q (P : PqC q u h) (e : ∀ a b, (a = 51 ∧ 7 ≤ b ∧ b ≤ 14) ∨ (52 ≤ a ∧ a ≤ 57) → h'.1 a b = h.1 a b) : PqC q u h' := by
  obtain ⟨p1, p2, p3, p4, p5, p6, p7, p8, p9, p10⟩ := P
  refine ⟨?_, ?_, ?_, ?_, ?_, ?_, ?_, ?_, fun i hi => ⟨?_, ?_, ?_⟩, fun i hi => ⟨?_, ?_, ?_⟩⟩
  · rw [e 51 7 (by omega)]; exact p1
  · rw [e 51 8 (by omega)]; exact p2
  · rw [e 51 9 (by omega)]; exact p3
  · rw [e 51 10 (by omega)]; exact p4
  · rw [e 51 11 (by omega)]; exact p5
  · rw [e 51 12 (by omega)]; exact p6
  · rw [e 51 13 (by omega)]; exact p7
  · rw [e 51 14 (by omega)]; exact p8
  · rw [e 52 i (by omega)]; exact (p9 i hi).1
  · rw [e 53 i (by omega)]; exact (p9 i hi).2.1
  · rw [e 54 i (by omega)]; exact (p9 i hi).2.2
  · rw [e 55 i (by omega)]; exact (p10 i hi).1
  · rw [e 56 i (by omega)]; exact (p10 i hi).2.1
  · rw [e 57 i (by omega)]; exact (p10 i hi).2.2
theorem PqC_t (ho : 64 ≤ o) (P : PqC q u h) (f : TF o h h') : PqC q u h' := PqC_q P (fun a b z => f a b (by omega))
theorem RwC_q (R : RwC v h) (e : ∀ a b, 60 ≤ a ∧ a ≤ 62 → h'.1 a b = h.1 a b) : RwC v h' := by
  obtain ⟨r0, E, r1, ⟨b, b1, b2, b3, b4⟩, r3⟩ := R
  exact ⟨r0, E, r1, ⟨b, b1, by rw [e 61 0 (by omega)]; exact b2, by rw [e 62 0 (by omega)]; exact b3, fun t ht => by rw [e 60 _ (by omega)]; exact b4 t ht⟩, r3⟩
theorem RwC_t (ho : 64 ≤ o) (R : RwC v h) (f : TF o h h') : RwC v h' := RwC_q R (fun a b z => f a b (by omega))
theorem cm_le {k : Nat} (hk : k < 9) : 1 ≤ cm k ∧ cm k ≤ 11 ∧ cm k ≠ 4 ∧ cm k ≠ 6 := by
  unfold cm
  split
  · omega
  · split
    · omega
    · split
      · omega
      · split <;> omega
theorem cm_inj : ∀ k, k < 9 → ∀ j, j < 9 → cm k = cm j → k = j := by decide
theorem TrB_s {k j : Nat} {x : Int32} (hk : k < 9) (T : TrB o S h) : TrB o (su S k j x) (hs h (o + cm k) j x) := fun a ha => by
  by_cases e : a = k
  · subst e
    rw [su_s, hs_own, T a ha]
  · rw [su_o e, hs_o (fun z => e (cm_inj a ha k hk (by omega))), T a ha]
theorem TrB_o {k j : Nat} {x : Int32} (hk : k ≤ o ∨ o + 11 < k ∨ k = o + 4 ∨ k = o + 6) (T : TrB o S h) : TrB o S (hs h k j x) := fun a ha => by
  have := cm_le ha
  rw [hs_o (by omega), T a ha]
theorem TrB_q (T : TrB o S h) (e : ∀ a b, o < a ∧ a ≤ o + 11 ∧ a ≠ o + 4 → h'.1 a b = h.1 a b) : TrB o S h' := fun k hk => by
  have := cm_le hk
  funext b
  rw [e _ b (by omega), T k hk]
theorem TrC_q (T : TrC q u o S h) (e : ∀ a b, (o < a ∧ a ≤ o + 15 ∧ a ≠ o + 4) ∨ (a = o ∧ (b = 6 ∨ b = 7 ∨ b = 18)) → h'.1 a b = h.1 a b) : TrC q u o S h' := by
  obtain ⟨t1, t2, t3, t4, t5, t6⟩ := T
  refine ⟨by rw [e o 6 (by omega)]; exact t1, by rw [e o 7 (by omega)]; exact t2, TrB_q t3 (fun a b z => e a b (by omega)), fun c hc => ?_, fun f hf => ?_, ?_⟩
  · rw [e (o + 12) c (by omega), e (o + 13) c (by omega)]; exact t4 c hc
  · rw [e (o + 14) f (by omega), e (o + 15) f (by omega)]; exact t5 f hf
  · rw [e o 18 (by omega)]; exact t6
theorem r_0 (T : TrC q u o S h) {i : Nat} : h.1 (o + 1) i = S 0 i := congrFun (T.2.2.1 0 (by decide)) i
theorem r_1 (T : TrC q u o S h) {i : Nat} : h.1 (o + 2) i = S 1 i := congrFun (T.2.2.1 1 (by decide)) i
theorem r_2 (T : TrC q u o S h) {i : Nat} : h.1 (o + 3) i = S 2 i := congrFun (T.2.2.1 2 (by decide)) i
theorem r_3 (T : TrC q u o S h) {i : Nat} : h.1 (o + 5) i = S 3 i := congrFun (T.2.2.1 3 (by decide)) i
theorem r_6 (T : TrC q u o S h) {i : Nat} : h.1 (o + 9) i = S 6 i := congrFun (T.2.2.1 6 (by decide)) i
theorem r_7 (T : TrC q u o S h) {i : Nat} : h.1 (o + 10) i = S 7 i := congrFun (T.2.2.1 7 (by decide)) i
theorem r_8 (T : TrC q u o S h) {i : Nat} : h.1 (o + 11) i = S 8 i := congrFun (T.2.2.1 8 (by decide)) i
theorem r_f (T : TrC q u o S h) (K : Sok q S) {c : Nat} (hc : c < 2) : h.1 (o + 9) c = nI (fl S c) := by rw [r_6 T]; exact (K.1 c hc).2.1
/-- a change of a cell that the sets do not see -/
theorem TrC_s {k j : Nat} {x : Int32} (hk : 3 ≤ k) (hk9 : k < 9) (T : TrC q u o S h) : TrC q u o (su S k j x) (hs h (o + cm k) j x) := by
  obtain ⟨t1, t2, t3, t4, t5, t6⟩ := T
  have := cm_le hk9
  have e : ∀ a, a = o ∨ o + 11 < a → (hs h (o + cm k) j x).1 a = h.1 a := fun a z => hs_o (by omega)
  refine ⟨by rw [e o (by omega)]; exact t1, by rw [e o (by omega)]; exact t2, TrB_s hk9 t3, fun c hc => ?_, fun f hf => ?_, ?_⟩
  · rw [e (o + 12) (by omega), e (o + 13) (by omega)]
    exact ⟨Mk_c (t4 c hc).1 (fun i _ => (ins_o hk).symm), Mk_c (t4 c hc).2 (fun i _ => (wtg_o hk).symm)⟩
  · rw [e (o + 14) (by omega), e (o + 15) (by omega)]; exact t5 f hf
  · rw [e o (by omega)]
    exact Mk_c t6 (fun i _ => by rw [su_o (by omega)])
theorem hasRoom_x (Q : Qok q u) (K : Sok q S) (P : PqC q u h) (T : TrC q u o S h) {c : Nat} (hc : c < 2) : F_X10_hasRoom o (nI c) h = some (if lod (q 5) S c < q 2 then 1 else 0, h) := by
  obtain ⟨q0, q0', q1, q1', q2, q2', q3, q4, q5, q6, q7, qp, qh⟩ := Q
  have l := (K.1 c hc).2.2.2.1
  unfold F_X10_hasRoom
  rw [if_pos (nI_in0 hc (by omega)), nI_clamp (by omega), bitC, bI_s, Mk_ct (by omega) (T.2.2.2.1 c hc).1, P.2.2.1]
  show (if nI (q 2) ≤ nI (lod (q 5) S c) then _ else _) = _
  by_cases g : lod (q 5) S c < q 2
  · rw [if_neg (nI_ge g (by omega)), if_pos g]
  · rw [if_pos (nI_le (by omega) (by omega)), if_neg g]
theorem goals21 {N : Nat} (Q : Qok q u) (P : PqC q u h) (T : TrC q u o S h) {c : Nat} (hc : c < 2) {x3 : Int32} (M3 : Mk x3 (q 5) (fun i => decide (lod (q 5) S c < q 2) && wtg S c i)) : ∀ m f x4 fuel, f + m = q 0 → m < fuel → Mk x4 (q 0) (fun i => decide (i < f) && gol q u S c i) → ∃ r, F_X10_goalsOf_b21 N o fuel (nI c) x3 x4 (nI f) h = some (r, h) ∧ Mk r (q 0) (gol q u S c) := by
  obtain ⟨q0, q0', q1, q1', q2, q2', q3, q4, q5, q6, q7, qp, qh⟩ := Q
  intro m
  induction m with
  | zero =>
    intro f x4 fuel e1 e2 M
    obtain ⟨fu, rfl⟩ : ∃ g, fuel = g + 1 := ⟨fuel - 1, by omega⟩
    rw [F_X10_goalsOf_b21, P.1, if_pos (nI_le (by omega) (by omega))]
    exact ⟨x4, rfl, Mk_c M (fun i hi => by simp; omega)⟩
  | succ m ih =>
    intro f x4 fuel e1 e2 M
    obtain ⟨fu, rfl⟩ : ∃ g, fuel = g + 1 := ⟨fuel - 1, by omega⟩
    have z0 : (((h.1 (o + 12) c) &&& (h.1 (o + 15) f)) ||| (x3 &&& (h.1 (o + 14) f))) = 0 ↔ gol q u S c f = false := by
      rw [Mk_0i (by omega) (Mk_or (Mk_and (T.2.2.2.1 c hc).1 (T.2.2.2.2.1 f (by omega)).2) (Mk_and M3 (T.2.2.2.2.1 f (by omega)).1))]
      unfold gol
      rw [exn_f]
      simp only [Bool.and_assoc]
    rw [F_X10_goalsOf_b21, P.1, if_neg (nI_ge (by omega) (by omega)), if_pos (nI_in0 hc (by omega)), if_pos (nI_in0 (by omega : f < 6) (by omega)), nI_clamp (by omega), nI_clamp (by omega)]
    unfold F_X10_goalsOf_b69
    simp only [ib_e, nI_1]
    cases g : gol q u S c f
    · rw [if_pos (z0.mpr g)]
      exact ih (f + 1) x4 fu (by omega) (by omega) (Mk_c M (fun i hi => by
        by_cases e : i = f
        · subst e; simp [g]
        · have : (i < f + 1) = (i < f) := by apply propext; omega
          simp only [this]))
    · rw [if_neg (fun z => by rw [z0.mp z] at g; exact absurd g (by decide))]
      exact ih (f + 1) _ fu (by omega) (by omega) (Mk_c (Mk_or M (Mk_1 (by omega) (by omega))) (fun i hi => by
        by_cases e : i = f
        · subst e; simp [g]
        · have : (i < f + 1) = (i < f) := by apply propext; omega
          simp only [this, e]
          simp))
theorem goalsC_x {N : Nat} (hN : 100 ≤ N) (Q : Qok q u) (P : PqC q u h) (T : TrC q u o S h) {c : Nat} (hc : c < 2) : F_X10_goalsOf N o (nI c) (if lod (q 5) S c < q 2 then 1 else 0) h = some (nI (mkN (gol q u S c) (q 0)), h) := by
  have key : ∀ x3, Mk x3 (q 5) (fun i => decide (lod (q 5) S c < q 2) && wtg S c i) → F_X10_goalsOf_b14 N o (nI c) x3 h = some (nI (mkN (gol q u S c) (q 0)), h) := fun x3 M3 => by
    unfold F_X10_goalsOf_b14
    obtain ⟨r, e1, e2⟩ := goals21 (N := N) Q P T hc M3 (q 0) 0 0 N (by omega) (by have := Q.2.1; omega) (Mk_c Mk_0 (fun i _ => by simp))
    rw [show (0 : Int32) = nI 0 from rfl] at e1 ⊢
    rw [e1, Mk_e e2 mkN_Mk]
  unfold F_X10_goalsOf
  by_cases g : lod (q 5) S c < q 2
  · rw [if_pos g, if_neg one10, if_pos (nI_in0 hc (by omega)), nI_clamp (by omega)]
    exact key _ (Mk_c (T.2.2.2.1 c hc).2 (fun i _ => by simp [g]))
  · rw [if_neg g, if_pos rfl]
    exact key _ (Mk_c Mk_0 (fun i _ => by simp [g]))
end
/-! the rule in the class -/
section
variable {q : Nat → Nat} {u : Nat → Nat → Nat} {v : (Nat → Int32) → Int32} {way : Int32} {S : TSt} {o : Nat} {h h' h2 : PH}
theorem valueR_x {N : Nat} (hN : 2000 ≤ N) (R : RwC v h) : okI (F_X2_value N 58 0 0 h) (fun x h' => x = v (h.1 59) ∧ fr [63] h h') := by
  obtain ⟨r0, E, r1, r2, r3⟩ := R
  obtain ⟨st, s1, s2⟩ := r3 (h.1 59)
  exact okI_m (value_x (o := 58) (l := 0) (bits := 0) hN (by omega) r2 r1 s1) (fun x h' z => ⟨by rw [z.1, s2], z.2⟩)
theorem tw_d : ∀ a, a < 6 → ∀ y, y < 6 → ∀ w, w < 3 → (if (nI a - nI y) * (nI w - 1) < 0 then (0 : Int32) else 1) = if twd a y (nI w - 1) = true then 1 else 0 := by decide +kernel
theorem ab_d : ∀ a, a < 6 → ∀ y, y < 6 → iabs (nI a - nI y) = nI (if a < y then y - a else a - y) := by decide +kernel
theorem w3 {w : Int32} (h : w = 0 ∨ w = 1 ∨ w = -1) : ∃ k, k < 3 ∧ w = nI k - 1 := by
  rcases h with rfl | rfl | rfl
  · exact ⟨1, by omega, by decide⟩
  · exact ⟨2, by omega, by decide⟩
  · exact ⟨0, by omega, by decide⟩
theorem ruleC_x {N : Nat} (hN : 2000 ≤ N) (ho : 64 ≤ o) (Q : Qok q u) (K : Sok q S) (P : PqC q u h) (R : RwC v h) (T : TrC q u o S h) {c i t : Nat} (hc : c < 2) (hi : i < q 5) (ht : t < 900) : okI (F_X10_ruleOf N o (nI c) (nI i) (nI t) h) (fun x h' => x = v (fcs q u S c i t) ∧ ∀ a b, a ≠ 59 → a ≠ 63 → h'.1 a b = h.1 a b) := by
  have q5 : q 5 ≤ 24 := Q.2.2.2.2.2.2.2.2.1
  have q06 : q 0 ≤ 6 := Q.2.1
  have ui := Q.2.2.2.2.2.2.2.2.2.2.2.1 i hi
  have fy := (K.1 c hc).1
  obtain ⟨w, w1, w2⟩ := w3 (K.1 c hc).2.2.1
  have pi := P.2.2.2.2.2.2.2.2.1 i hi
  unfold F_X10_ruleOf
  rw [hasRoom_x Q K P T hc, bI_s, goalsC_x (by omega) Q P T hc, bI_s, if_pos (nI_in0 (by omega : i < 24) (by omega)), if_pos (nI_in0 hc (by omega)), nI_clamp (by omega), nI_clamp (by omega), pi.2.1, r_f T K hc]
  rw [ib_e, if_pos (by decide), show (0 : Int32).toNatClampNeg = 0 by decide, hb_e]
  generalize hk0 : hs h 59 0 (iabs (nI (u 1 i) - nI (fl S c))) = k0
  have z0 : ∀ a, a ≠ 59 → k0.1 a = h.1 a := fun a e => by rw [← hk0, hs_o e]
  rw [bitC, bI_s, if_pos (by decide), show (1 : Int32).toNatClampNeg = 1 by decide, hb_e, z0 (o + 12) (by omega), Mk_ct (by omega) (T.2.2.2.1 c hc).1]
  rw [bitC, bI_s, if_pos (by decide), show (2 : Int32).toNatClampNeg = 2 by decide, hb_e, Mk_ct (by omega) mkN_Mk]
  generalize hk2 : hs (hs k0 59 1 (nI (fb_ct (ins S c) (q 5)))) 59 2 (nI (fb_ct (gol q u S c) (q 0))) = k2
  have z2 : ∀ a, a ≠ 59 → k2.1 a = h.1 a := fun a e => by rw [← hk2, hs_o e, hs_o e, z0 a e]
  rw [z2 (o + 10) (by omega), r_7 T, w2]
  have tw := tw_d (u 1 i) (by omega) (fl S c) (by omega) w w1
  have fold : (if (nI (u 1 i) - nI (fl S c)) * (nI w - 1) < 0 then F_X10_ruleOf_b93 N o (nI c) (nI i) (nI t) (nI (mkN (gol q u S c) (q 0))) 0 3 k2 else F_X10_ruleOf_b93 N o (nI c) (nI i) (nI t) (nI (mkN (gol q u S c) (q 0))) 1 3 k2) = F_X10_ruleOf_b93 N o (nI c) (nI i) (nI t) (nI (mkN (gol q u S c) (q 0))) (if twd (u 1 i) (fl S c) (nI w - 1) = true then 1 else 0) 3 k2 := by
    rw [← tw]
    by_cases z : (nI (u 1 i) - nI (fl S c)) * (nI w - 1) < 0
    · rw [if_pos z, if_pos z]
    · rw [if_neg z, if_neg z]
  rw [fold, ← w2]
  unfold F_X10_ruleOf_b93
  rw [if_pos (by decide), show (3 : Int32).toNatClampNeg = 3 by decide, hb_e]
  generalize hk3 : hs k2 59 3 (if twd (u 1 i) (fl S c) (S 7 c) = true then 1 else 0) = k3
  have z3 : ∀ a, a ≠ 59 → k3.1 a = h.1 a := fun a e => by rw [← hk3, hs_o e, z2 a e]
  have gl : mkN (gol q u S c) (q 0) < 2147483648 := Nat.lt_of_lt_of_le (mkN_lt _) (Nat.le_trans (Nat.pow_le_pow_right (by decide) q06) (by decide))
  have fold4 : (if nI (mkN (gol q u S c) (q 0)) = 0 then F_X10_ruleOf_b107 N o (nI c) (nI i) (nI t) 1 4 k3 else F_X10_ruleOf_b107 N o (nI c) (nI i) (nI t) 0 4 k3) = F_X10_ruleOf_b107 N o (nI c) (nI i) (nI t) (if mkN (gol q u S c) (q 0) = 0 then 1 else 0) 4 k3 := by
    by_cases z : mkN (gol q u S c) (q 0) = 0
    · rw [if_pos (by rw [z]; rfl), if_pos z]
    · rw [if_neg (fun y => z ((n_eq_l 0 gl (by omega)).mp y)), if_neg z]
  rw [fold4]
  unfold F_X10_ruleOf_b107
  rw [if_pos (by decide), show (4 : Int32).toNatClampNeg = 4 by decide, hb_e, if_pos (nI_in0 hc (by omega)), if_pos (by decide), show (5 : Int32).toNatClampNeg = 5 by decide, nI_clamp (by omega), hb_e]
  rw [if_pos (nI_in0 (by omega : i < 24) (by omega)), if_pos (by decide), show (6 : Int32).toNatClampNeg = 6 by decide, nI_clamp (by omega), hb_e, if_pos (by decide), show (7 : Int32).toNatClampNeg = 7 by decide, hb_e, if_pos (by decide), show (8 : Int32).toNatClampNeg = 8 by decide, hb_e, if_pos (by decide), show (9 : Int32).toNatClampNeg = 9 by decide, hb_e]
  rw [hs_o (show o + 9 ≠ 59 by omega), z3 (o + 9) (by omega), r_f T K hc]
  rw [hs_o (show 53 ≠ 59 by omega), hs_o (show 53 ≠ 59 by omega), z3 53 (by omega), pi.2.1]
  rw [hs_o (show 54 ≠ 59 by omega), hs_o (show 54 ≠ 59 by omega), hs_o (show 54 ≠ 59 by omega), z3 54 (by omega), pi.2.2]
  generalize hk9 : hs (hs (hs (hs (hs (hs k3 59 4 (if mkN (gol q u S c) (q 0) = 0 then 1 else 0)) 59 5 (nI (fl S c))) 59 6 (nI (u 1 i))) 59 7 (nI (u 2 i))) 59 8 (nI c)) 59 9 (nI t) = k9
  have z9 : ∀ a, a ≠ 59 → k9.1 a = h.1 a := fun a e => by rw [← hk9, hs_o e, hs_o e, hs_o e, hs_o e, hs_o e, hs_o e, z3 a e]
  obtain ⟨x, h', e1, e2, e3⟩ := valueR_x hN (RwC_q (h' := k9) R (fun a b z => by rw [z9 a (by omega)]))
  rw [e1, bI_s]
  refine ⟨x, h', rfl, ?_, fun a b y1 y2 => ?_⟩
  · rw [e2]
    refine R.1 _ _ (fun a ha => ?_)
    rw [← hk9, ← hk3, ← hk2, ← hk0, ab_d (u 1 i) (by omega) (fl S c) (by omega)]
    have : a = 0 ∨ a = 1 ∨ a = 2 ∨ a = 3 ∨ a = 4 ∨ a = 5 ∨ a = 6 ∨ a = 7 ∨ a = 8 ∨ a = 9 := by omega
    rcases this with rfl | rfl | rfl | rfl | rfl | rfl | rfl | rfl | rfl | rfl <;> simp [hs_1, fcs, lod]
  · rw [e3 a (by simp [y2]), z9 a y1]
theorem carByRule_x {N : Nat} (hN : 2000 ≤ N) (ho : 64 ≤ o) (Q : Qok q u) (K : Sok q S) (P : PqC q u h) (R : RwC v h) (T : TrC q u o S h) {i t : Nat} (hi : i < q 5) (ht : t < 900) : okI (F_X10_carByRule N o (nI i) (nI t) h) (fun x h' => x = gcar q u v (-1) t i S ∧ ∀ a b, a ≠ 59 → a ≠ 63 → h'.1 a b = h.1 a b) := by
  have q1 : 1 ≤ q 1 ∧ q 1 ≤ 2 := ⟨Q.2.2.1, Q.2.2.2.1⟩
  unfold F_X10_carByRule gcar
  rw [if_pos rfl, T.1]
  by_cases g : q 1 = 2
  · rw [if_pos (by rw [g]; decide), if_pos g]
    obtain ⟨x1, h1, e1, rfl, f1⟩ := ruleC_x hN ho Q K P R T (c := 1) (by omega) hi ht
    rw [show (1 : Int32) = nI 1 from rfl, e1, bI_s]
    have e : ∀ a b, a < 59 ∨ 63 < a ∨ (60 ≤ a ∧ a ≤ 62) → h1.1 a b = h.1 a b := fun a b z => f1 a b (by omega) (by omega)
    obtain ⟨x2, h2, e2, rfl, f2⟩ := ruleC_x hN ho Q K (PqC_q P (fun a b z => e a b (by omega))) (RwC_q R (fun a b z => e a b (by omega))) (TrC_q T (fun a b z => e a b (by omega))) (c := 0) (by omega) hi ht
    rw [show (0 : Int32) = nI 0 from rfl, e2, bI_s]
    by_cases y : v (fcs q u S 0 i t) ≤ v (fcs q u S 1 i t)
    · rw [if_pos y, if_neg (Int32.not_lt.mpr y)]
      exact okI_s ⟨rfl, fun a b y1 y2 => (f2 a b y1 y2).trans (f1 a b y1 y2)⟩
    · rw [if_neg y, if_pos (Int32.not_le.mp y)]
      exact okI_s ⟨rfl, fun a b y1 y2 => (f2 a b y1 y2).trans (f1 a b y1 y2)⟩
  · rw [show q 1 = 1 by omega, if_neg (by decide), if_neg (by decide)]
    exact okI_s ⟨rfl, fun _ _ _ _ => rfl⟩
end
