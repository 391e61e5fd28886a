/-! a run's beginning in the class -/
def TH (o : Nat) (h h' : PH) : Prop := ∀ a b, ((a < o ∨ o + 15 < a) ∧ a ≠ 59 ∧ a ≠ 63) ∨ (a = o ∧ b = 19) → h'.1 a b = h.1 a b
section
variable {q : Nat → Nat} {u : Nat → Nat → Nat} {v : (Nat → Int32) → Int32} {way : Int32} {S : TSt} {o t : Nat} {h h' h2 : PH}
theorem TH_t (a : TH o h h') (b : TH o h' h2) : TH o h h2 := fun x y z => (b x y z).trans (a x y z)
theorem TH_g (a : TG o h h') : TH o h h' := fun x y z => a x y (by omega)
theorem ini_ins (I : Ini S) {c i : Nat} (hi : i < 24) : ins S c i = false := by
  unfold ins
  rw [(I.1 i hi).2.1]
  exact decide_eq_false (fun z => absurd z.2.1 (by decide))
theorem ini_wtg (I : Ini S) {c i : Nat} (hc : c < 2) (hi : i < 24) : wtg S c i = false := by
  unfold wtg
  rw [(I.1 i hi).1]
  exact decide_eq_false (fun z => n_eq_m1 (j := c) (by omega) z.1.symm)
theorem ini_fl (I : Ini S) {c : Nat} (hc : c < 2) : fl S c = 0 := by
  unfold fl
  rw [(I.2 c hc).2.1]
  decide
theorem ini_ok (Q : Qok q u) (I : Ini S) : Sok q S := by
  obtain ⟨q0, q0', q1, q1', q2, q2', q3, q4, q5, q6, q7, qp, qh⟩ := Q
  refine ⟨fun k hk => ?_, fun i hi => ?_⟩
  · have l0 : lod (q 5) S k = 0 := fb_ct_zero.mpr (fun i hi => ini_ins I (by omega))
    obtain ⟨a1, a2, a3, a4, a5⟩ := I.2 k hk
    rw [ini_fl I hk, l0]
    exact ⟨by omega, a2, Or.inl a3, by omega, fun _ => a4⟩
  · obtain ⟨a1, a2, a3⟩ := I.1 i (by omega)
    rw [a1, a2, a3]
    exact ⟨fun _ => rfl, Or.inl rfl, fun _ => by decide, Or.inl rfl⟩
theorem ini_un (Q : Qok q u) (I : Ini S) : Un q u 0 S := fun i hi _ => (I.1 i (by have := Q.2.2.2.2.2.2.2.2.1; omega)).1
theorem beg_b175 {N : Nat} (ho : 64 ≤ o) (Q : Qok q u) {h0 : PH} (p7 : h0.1 o 7 = nI (q 5)) (P : PqC q u h0) : ∀ m i fuel h, i + m = q 5 → m < fuel → (∀ a b, a ≠ o + 14 → a ≠ o + 15 → h.1 a b = h0.1 a b) → (∀ f, f < 6 → Mk (h.1 (o + 14) f) (q 5) (fun j => decide (j < i) && decide (u 1 j = f)) ∧ Mk (h.1 (o + 15) f) (q 5) (fun j => decide (j < i) && decide (u 2 j = f))) → okV (F_X10_begin_b175 N o fuel (nI i) h) (fun h' => (∀ a b, a ≠ o + 14 → a ≠ o + 15 → h'.1 a b = h0.1 a b) ∧ ∀ f, f < 6 → Mk (h'.1 (o + 14) f) (q 5) (fun j => decide (u 1 j = f)) ∧ Mk (h'.1 (o + 15) f) (q 5) (fun j => decide (u 2 j = f))) := by
  have q5 : q 5 ≤ 24 := Q.2.2.2.2.2.2.2.2.1
  have q06 : q 0 ≤ 6 := Q.2.1
  intro m
  induction m with
  | zero =>
    intro i fuel h e1 e2 f0 M
    obtain ⟨fu, rfl⟩ : ∃ g, fuel = g + 1 := ⟨fuel - 1, by omega⟩
    rw [F_X10_begin_b175, f0 o 7 (by omega) (by omega), p7, if_pos (nI_le (by omega) (by omega))]
    exact okV_s ⟨f0, fun f hf => ⟨Mk_c (M f hf).1 (fun j hj => by simp; omega), Mk_c (M f hf).2 (fun j hj => by simp; omega)⟩⟩
  | succ m ih =>
    intro i fuel h e1 e2 f0 M
    obtain ⟨fu, rfl⟩ : ∃ g, fuel = g + 1 := ⟨fuel - 1, by omega⟩
    have ui := Q.2.2.2.2.2.2.2.2.2.2.2.1 i (by omega)
    have pi := P.2.2.2.2.2.2.2.2.1 i (by omega)
    rw [F_X10_begin_b175, f0 o 7 (by omega) (by omega), p7, if_neg (nI_ge (by omega) (by omega)), if_pos (nI_in0 (by omega : i < 24) (by omega)), nI_clamp (by omega), f0 53 i (by omega) (by omega), pi.2.1, ib_e, if_pos (nI_in0 (by omega : u 1 i < 6) (by omega)), nI_clamp (by omega), hb_e, hs_o (show 54 ≠ o + 14 by omega), f0 54 i (by omega) (by omega), pi.2.2, ib_e, if_pos (nI_in0 (by omega : u 2 i < 6) (by omega)), nI_clamp (by omega), hb_e, ib_e, nI_1, hs_o (show o + 15 ≠ o + 14 by omega)]
    refine ih (i + 1) fu _ (by omega) (by omega) (fun a b z1 z2 => by rw [hs_o z2, hs_o z1]; exact f0 a b z1 z2) (fun f hf => ⟨?_, ?_⟩)
    · rw [hs_o (by omega), hs_1, if_pos rfl]
      by_cases e : f = u 1 i
      · subst e
        rw [if_pos rfl]
        refine Mk_c (Mk_or (M (u 1 i) hf).1 (Mk_1 (by omega : i < q 5) (by omega))) (fun j hj => ?_)
        by_cases ej : j = i
        · subst ej; simp
        · have : (j < i + 1) = (j < i) := by apply propext; omega
          simp only [this, ej]
          simp
      · rw [if_neg e]
        refine Mk_c (M f hf).1 (fun j hj => ?_)
        by_cases ej : j = i
        · subst ej
          have : ¬ u 1 j = f := fun z => e z.symm
          simp [this]
        · have : (j < i + 1) = (j < i) := by apply propext; omega
          simp only [this]
    · rw [hs_1, if_pos rfl]
      by_cases e : f = u 2 i
      · subst e
        rw [if_pos rfl]
        refine Mk_c (Mk_or (M (u 2 i) hf).2 (Mk_1 (by omega : i < q 5) (by omega))) (fun j hj => ?_)
        by_cases ej : j = i
        · subst ej; simp
        · have : (j < i + 1) = (j < i) := by apply propext; omega
          simp only [this, ej]
          simp
      · rw [if_neg e, hs_o (by omega)]
        refine Mk_c (M f hf).2 (fun j hj => ?_)
        by_cases ej : j = i
        · subst ej
          have : ¬ u 2 j = f := fun z => e z.symm
          simp [this]
        · have : (j < i + 1) = (j < i) := by apply propext; omega
          simp only [this]
theorem beg_b72 {N : Nat} : ∀ fuel h, 3 ≤ fuel → F_X10_begin_b72 N o fuel 0 h = F_X10_begin_b93 N o (hfill (hfill h (o + 7) 5 0) (o + 8) 5 0) := by
  intro fuel h hf
  obtain ⟨f, rfl⟩ : ∃ f, fuel = f + 3 := ⟨fuel - 3, by omega⟩
  rw [F_X10_begin_b72, if_neg (by decide), if_pos (by decide), hb_e, ib_e, show (0 : Int32) + 1 = 1 by decide, F_X10_begin_b72, if_neg (by decide), if_pos (by decide), hb_e, ib_e, show (1 : Int32) + 1 = 2 by decide, F_X10_begin_b72, if_pos (by decide), show (0 : Int32).toNatClampNeg = 0 by decide, show (1 : Int32).toNatClampNeg = 1 by decide]
theorem begC_x {N : Nat} (hN : 100 ≤ N) (ho : 64 ≤ o) (Q : Qok q u) (P : PqC q u h) : okV (F_X10_begin N o h) (fun h' => ∃ S0, Ini S0 ∧ TrC q u o S0 h' ∧ Cm q u (q 5) 0 (h'.1 o 17) ∧ h'.1 o 8 = (if q 5 = 0 then 0 else -1) ∧ TH o h h') := by
  have q5 : q 5 ≤ 24 := Q.2.2.2.2.2.2.2.2.1
  have q12 : q 1 ≤ 2 := Q.2.2.2.1
  generalize hk0 : hs (hs h o 6 (nI (q 1))) o 7 (nI (q 5)) = k0
  have c0 : ∀ a b, a ≠ o → k0.1 a b = h.1 a b := fun a b z => by rw [← hk0, hs_o z, hs_o z]
  have key : ∀ s0, s0 = (if q 5 = 0 then (0 : Int32) else -1) → okV (F_X10_begin_b35 N o s0 k0) (fun h' => ∃ S0, Ini S0 ∧ TrC q u o S0 h' ∧ Cm q u (q 5) 0 (h'.1 o 17) ∧ h'.1 o 8 = (if q 5 = 0 then 0 else -1) ∧ TH o h h') := by
    intro s0 hs0
    unfold F_X10_begin_b35
    rw [hb_e, hb_e, show (hs k0 o 8 s0).1 o 7 = nI (q 5) by rw [← hk0]; simp [hs_1]]
    generalize hk2 : hs (hs k0 o 8 s0) o 18 ((1 : Int32) <<< (nI (q 5) &&& 31) - 1) = k2
    have c2 : ∀ a b, a ≠ o → k2.1 a b = h.1 a b := fun a b z => by rw [← hk2, hs_o z, hs_o z, c0 a b z]
    have P2 : PqC q u k2 := PqC_q P (fun a b z => c2 a b (by omega))
    obtain ⟨r, n1, n2⟩ := ncom_x (N := N) (T := 0) (by omega) Q (by omega) P2
    rw [show (-1 : Int32) = bu 0 from rfl, n1, bI_s, hb_e, hb_e, beg_b72 N _ (by omega)]
    unfold F_X10_begin_b93
    simp only [hb_e]
    generalize hk3 : hfill (hfill (hfill (hfill (hfill (hfill (hfill (hfill (hfill (hfill (hfill (hfill (hfill (hs k2 o 17 r) (o + 5) 2 0) (o + 7) 5 0) (o + 8) 5 0) (o + 1) 24 (-1)) (o + 2) 24 (-1)) (o + 3) 24 (-1)) (o + 9) 2 0) (o + 10) 2 0) (o + 11) 2 0) (o + 12) 2 0) (o + 13) 2 0) (o + 14) 6 0) (o + 15) 6 0 = k3
    have c3 : ∀ a b, a < o ∨ o + 15 < a → k3.1 a b = h.1 a b := fun a b z => by
      rw [← hk3, hf_o (by omega), hf_o (by omega), hf_o (by omega), hf_o (by omega), hf_o (by omega), hf_o (by omega), hf_o (by omega), hf_o (by omega), hf_o (by omega), hf_o (by omega), hf_o (by omega), hf_o (by omega), hf_o (by omega), hs_o (by omega), c2 a b (by omega)]
    have d3 : ∀ b, k3.1 o b = (hs k2 o 17 r).1 o b := fun b => by
      rw [← hk3, hf_o (by omega), hf_o (by omega), hf_o (by omega), hf_o (by omega), hf_o (by omega), hf_o (by omega), hf_o (by omega), hf_o (by omega), hf_o (by omega), hf_o (by omega), hf_o (by omega), hf_o (by omega), hf_o (by omega)]
    have a6 : k3.1 o 6 = nI (q 1) := by rw [d3, ← hk2, ← hk0]; simp [hs_1]
    have a7 : k3.1 o 7 = nI (q 5) := by rw [d3, ← hk2, ← hk0]; simp [hs_1]
    have a8 : k3.1 o 8 = s0 := by rw [d3, ← hk2]; simp [hs_1]
    have a17 : k3.1 o 17 = r := by rw [d3]; simp [hs_1]
    have a18 : k3.1 o 18 = (1 : Int32) <<< (nI (q 5) &&& 31) - 1 := by rw [d3, ← hk2]; simp [hs_1]
    have a19 : k3.1 o 19 = h.1 o 19 := by rw [d3, ← hk2, ← hk0]; simp [hs_1]
    have p24 : ∀ i, i < 24 → k3.1 (o + 1) i = -1 ∧ k3.1 (o + 2) i = -1 ∧ k3.1 (o + 3) i = -1 := fun i hi => by
      rw [← hk3]; simp [hf_1, hi]
    have p2 : ∀ k, k < 2 → k3.1 (o + 5) k = 0 ∧ k3.1 (o + 9) k = 0 ∧ k3.1 (o + 10) k = 0 ∧ k3.1 (o + 11) k = 0 ∧ k3.1 (o + 12) k = 0 ∧ k3.1 (o + 13) k = 0 := fun i hi => by
      rw [← hk3]; simp [hf_1, hi]
    have p5 : ∀ j, j < 5 → k3.1 (o + 7) j = 0 ∧ k3.1 (o + 8) j = 0 := fun i hi => by
      rw [← hk3]; simp [hf_1, hi]
    have p6 : ∀ f, f < 6 → k3.1 (o + 14) f = 0 ∧ k3.1 (o + 15) f = 0 := fun i hi => by
      rw [← hk3]; simp [hf_1, hi]
    have P3 : PqC q u k3 := PqC_q P (fun a b z => c3 a b (by omega))
    obtain ⟨h', e1, e2, e3⟩ := beg_b175 (N := N) ho Q a7 P3 (q 5) 0 N k3 (by omega) (by omega) (fun _ _ _ _ => rfl) (fun f hf => ⟨by rw [(p6 f hf).1]; exact Mk_c Mk_0 (fun j _ => by simp), by rw [(p6 f hf).2]; exact Mk_c Mk_0 (fun j _ => by simp)⟩)
    rw [show (0 : Int32) = nI 0 from rfl, e1]
    have I : Ini (fun k => h'.1 (o + cm k)) := by
      refine ⟨fun i hi => ?_, fun k hk => ?_⟩
      · show h'.1 (o + 1) i = -1 ∧ h'.1 (o + 2) i = -1 ∧ h'.1 (o + 3) i = -1
        rw [e2 _ _ (by omega) (by omega), e2 _ _ (by omega) (by omega), e2 _ _ (by omega) (by omega)]
        exact p24 i hi
      · obtain ⟨w1, w2, w3, w4, -, -⟩ := p2 k hk
        refine ⟨by show h'.1 (o + 5) k = 0; rw [e2 _ _ (by omega) (by omega)]; exact w1, by show h'.1 (o + 9) k = 0; rw [e2 _ _ (by omega) (by omega)]; exact w2, by show h'.1 (o + 10) k = 0; rw [e2 _ _ (by omega) (by omega)]; exact w3, by show h'.1 (o + 11) k = 0; rw [e2 _ _ (by omega) (by omega)]; exact w4, fun j hj => ?_⟩
        have : k = 0 ∨ k = 1 := by omega
        rcases this with rfl | rfl
        · show h'.1 (o + 7) j = 0; rw [e2 _ _ (by omega) (by omega)]; exact (p5 j hj).1
        · show h'.1 (o + 8) j = 0; rw [e2 _ _ (by omega) (by omega)]; exact (p5 j hj).2
    refine okV_s ⟨fun k => h'.1 (o + cm k), I, ⟨by rw [e2 _ _ (by omega) (by omega)]; exact a6, by rw [e2 _ _ (by omega) (by omega)]; exact a7, fun k hk => rfl, fun c hc => ⟨?_, ?_⟩, e3, ?_⟩, by rw [e2 _ _ (by omega) (by omega), a17]; exact n2, by rw [e2 _ _ (by omega) (by omega), a8]; exact hs0, fun a b z => ?_⟩
    · rw [e2 _ _ (by omega) (by omega), (p2 c hc).2.2.2.2.1]
      exact Mk_c Mk_0 (fun i hi => (ini_ins I (by omega)).symm)
    · rw [e2 _ _ (by omega) (by omega), (p2 c hc).2.2.2.2.2]
      exact Mk_c Mk_0 (fun i hi => (ini_wtg I hc (by omega)).symm)
    · rw [e2 _ _ (by omega) (by omega), a18]
      exact Mk_c (Mk_all (q 5) (by omega)) (fun i hi => by rw [(I.1 i (by omega)).2.2]; rfl)
    · by_cases y : a = o
      · subst y
        rw [e2 _ _ (by omega) (by omega), show b = 19 by omega]; exact a19
      · rw [e2 _ _ (by omega) (by omega)]; exact c3 a b (by omega)
  unfold F_X10_begin
  rw [hb_e, hb_e, P.2.1, hs_o (show 51 ≠ o by omega), P.2.2.2.2.2.1, hk0, show k0.1 o 7 = nI (q 5) by rw [← hk0]; simp [hs_1]]
  by_cases g : q 5 = 0
  · rw [if_pos (by rw [g]; rfl)]; exact key 0 (by rw [if_pos g])
  · rw [if_neg (fun z => g ((n_eq_l 0 (by omega) (by omega)).mp z))]; exact key (-1) (by rw [if_neg g])
theorem simC_x {N : Nat} (hN : 2000 ≤ N) (ho : 64 ≤ o) (Q : Qok q u) (P : PqC q u h) (R : RwC v h) : okV (F_X10_simulate N o way h) (fun h' => ∃ S0, Ini S0 ∧ TrE q u o (sAll q u v way S0) h' ∧ TH o h h') := by
  have q5 : q 5 ≤ 24 := Q.2.2.2.2.2.2.2.2.1
  unfold F_X10_simulate
  obtain ⟨k, e1, S0, I, T, C, E, f⟩ := begC_x (N := N) (by omega) ho Q P
  rw [e1, bV_s]
  have P1 : PqC q u k := PqC_q P (fun a b z => f a b (by omega))
  have R1 : RwC v k := RwC_q R (fun a b z => f a b (by omega))
  unfold sAll
  by_cases g : q 5 = 0
  · rw [if_pos g] at E
    obtain ⟨N', rfl⟩ : ∃ n, N = n + 1 := ⟨N - 1, by omega⟩
    obtain ⟨h', x1, x2, x3⟩ := b153_x (N := N' + 1) (by omega) ho Q T P1 E
    rw [F_X10_simulate_b6, if_neg (by decide), E, if_neg (by decide), x1]
    exact okV_s ⟨S0, I, by rw [if_pos g]; exact x2, TH_t f (TH_g x3)⟩
  · rw [if_neg g] at E
    obtain ⟨h', x1, x2, x3⟩ := sim_b6 (way := way) hN ho Q 900 900 0 N k S0 (by omega) (by omega) (by omega) T P1 R1 (ini_ok Q I) (ini_un Q I) (Or.inr C) E
    rw [show (0 : Int32) = nI 0 from rfl, x1]
    exact okV_s ⟨S0, I, by rw [if_neg g]; exact x2, TH_t f (TH_g x3)⟩
end
