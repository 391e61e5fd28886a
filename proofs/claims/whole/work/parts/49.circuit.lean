/-! all lines on both sides -/
section
variable {n : Nat} {T : Nat → Nat} {m : Nat} {F : Nat}
theorem both_l {N : Nat} (B : TB (n, T)) (hN : 5000 ≤ N) : ∀ (k i x fu fu' : Nat) (D : List Nat) (tl : Nat → Bool) (EL CL : Nat → List Nat) (nv c0 : Nat) (hc hm : PH), m - i ≤ k → x ≤ i → m - i < fu → m - i < fu' → D.length ≤ i → PaS n T m false F i D hc → DrL tl EL nv D hc → MaS n T m false F 2000 c0 i [] hm → MlL tl CL c0 hm → (∀ l, tl l = true → Same false (EL l) (CL l)) → 2000 ≤ c0 → c0 ≤ 2000 + i →
    (∃ e h1 h2, 0 < e ∧ e < 2 ^ 31 ∧ F_X5_readCircuit_b8 N fu (nI x) hc = some (nI e, h1) ∧ F_X12_readsCircuit_b2 N fu' (nI nv) hm = some (0, h2) ∧ h2.1 103 10 = nI e ∧ fq [6, 7, 8] KC hc h1 ∧ FLr hm h2) ∨
    (∃ (D' : List Nat) (tl' : Nat → Bool) (EL' CL' : Nat → List Nat) (nv' c0' : Nat) (h1 h2 : PH), F_X5_readCircuit_b8 N fu (nI x) hc = some (0, h1) ∧ F_X12_readsCircuit_b2 N fu' (nI nv) hm = some (1, h2) ∧ D'.length ≤ 1000 ∧ PaS n T m false F m D' h1 ∧ DrL tl' EL' nv' D' h1 ∧ MlL tl' CL' c0' h2 ∧ (∀ l, tl' l = true → Same false (EL' l) (CL' l)) ∧ 2000 ≤ c0' ∧ c0' ≤ 3000 ∧ fq [6, 7, 8] KC hc h1 ∧ FLr hm h2) := by
  intro k
  induction k with
  | zero =>
    intro i x fu fu' D tl EL CL nv c0 hc hm hk hx hf hf' hD S L M ML sm h2 h3
    have jm : m ≤ 1000 := Nat.le_trans S.1.1.1 S.1.2.1
    have im : i ≤ m := S.2.1
    have e : i = m := by omega
    subst e
    obtain ⟨f, rfl⟩ : ∃ f, fu = f + 1 := ⟨fu - 1, by omega⟩
    obtain ⟨f', rfl⟩ : ∃ f', fu' = f' + 1 := ⟨fu' - 1, by omega⟩
    have k0 : kdf n T i = 0 := (kd_end ⟨S.1.1.1, S.1.1.2.1, S.1.1.2.2.1⟩ (Nat.le_refl i)).mpr rfl
    have hk0 : hc.1 3 3 = 0 := by
      have : hc.1 3 3 = nI (kdf n T i) := S.2.2.2.1
      rw [this, k0]; rfl
    have kn := kd_num B M.1 (tkb_le i).2
    refine Or.inr ⟨D, tl, EL, CL, nv, c0, hc, hm, ?_, ?_, by omega, S, L, ML, sm, h2, by omega, fq_0, ⟨fq_0, fun _ _ => rfl⟩⟩
    · unfold F_X5_readCircuit_b8
      by_cases g : 1000 ≤ x
      · rw [if_pos ((l_le_n 1000 (by omega) (by omega)).mpr g), S.2.2.2.2.2.1]
      · rw [if_neg (fun z => g ((l_le_n 1000 (by omega) (by omega)).mp z)), if_pos S.2.2.2.2.2.1, if_pos hk0, S.2.2.2.2.2.1]
    · rw [F_X12_readsCircuit_b2, if_pos (kn.2.1.mpr k0)]
  | succ k ih =>
    intro i x fu fu' D tl EL CL nv c0 hc hm hk hx hf hf' hD S L M ML sm h2 h3
    have jm : m ≤ 1000 := Nat.le_trans S.1.1.1 S.1.2.1
    have im : i ≤ m := S.2.1
    by_cases gi : i = m
    · exact ih i x fu fu' D tl EL CL nv c0 hc hm (by omega) hx hf hf' hD S L M ML sm h2 h3
    · have hF : F ≤ 6 := S.1.2.2.2.2
      obtain ⟨f, rfl⟩ : ∃ f, fu = f + 1 := ⟨fu - 1, by omega⟩
      obtain ⟨f', rfl⟩ : ∃ f', fu' = f' + 1 := ⟨fu' - 1, by omega⟩
      have kl : kdf n T i < 35 := kd_le n T (tkb n T i)
      have k0 : ¬ kdf n T i = 0 := fun z => gi ((kd_end ⟨S.1.1.1, S.1.1.2.1, S.1.1.2.2.1⟩ im).mp z)
      have hk0 : hc.1 3 3 = nI (kdf n T i) := S.2.2.2.1
      obtain ⟨h1, e1, P1, f1⟩ := cline_x (N := N) (by omega) S L hD (by omega)
      have ec : F_X5_readCircuit_b8 N (f + 1) (nI x) hc = F_X5_readCircuit_b8 N f (nI (x + 1)) h1 := by
        rw [F_X5_readCircuit_b8, if_neg (fun z => by have := (l_le_n 1000 (by omega) (by omega)).mp z; omega), if_pos S.2.2.2.2.2.1, hk0, if_neg (fun z => k0 ((n_eq_l 0 (by omega) (by omega)).mp z)), e1, bV_s, ib_e, nI_1]
      have ml := mline_x (N := N) (fu := f') (nv := nv) B (by omega) M ML L.2.1 h3 h2 (by omega) L.2.2.1
      cases hl : spLn F tl nv (kdf n T) (vlf n T) i with
      | inl e =>
        obtain ⟨ke, j⟩ := e
        rw [hl] at P1 ml
        obtain ⟨v, h4, e4, rfl, q4, f4⟩ := ml
        have P2 : PaF n T m false F (ke + 16 * tkb n T j) h1 := P1
        obtain ⟨g, rfl⟩ : ∃ g, f = g + 1 := ⟨f - 1, by omega⟩
        refine Or.inl ⟨ke + 16 * tkb n T j, h1, h4, P2.2.2.1, P2.2.2.2.1, ?_, e4, q4, f1, f4⟩
        rw [ec, F_X5_readCircuit_b8]
        have nz : ¬ h1.1 3 5 = 0 := fun z => by
          rw [P2.2.1] at z
          have := (n_eq_l 0 (by have := P2.2.2.2.1; omega) (by omega)).mp z
          have := P2.2.2.1
          omega
        by_cases g : 1000 ≤ x + 1
        · rw [if_pos ((l_le_n 1000 (by omega) (by omega)).mpr g), P2.2.1]
        · rw [if_neg (fun z => g ((l_le_n 1000 (by omega) (by omega)).mp z)), if_neg nz, P2.2.1]
      | inr q =>
        obtain ⟨l, i', E, C⟩ := q
        rw [hl] at P1 ml
        obtain ⟨a1, a2, a3, a4⟩ := P1
        obtain ⟨h4, b1, b2, b3, b4, b5, b6, b7⟩ := ml
        have sm' : ∀ y, tup tl l y = true → Same false (lup EL l E y) (lup CL l C y) := fun y hy => by
          unfold tup at hy
          unfold lup
          by_cases g : y = l
          · rw [if_pos g, if_pos g]
            unfold spLn at hl
            repeat' split at hl
            all_goals first | (cases hl; done) | skip
            all_goals first | (rename_i hE _; cases hl; exact same_E hF (fun i => kd2 n T (tkb n T i)) hE) | skip
          · rw [if_neg g] at hy
            rw [if_neg g, if_neg g]
            exact sm y hy
        have im' : i' ≤ m := a3.2.1
        rcases ih i' (x + 1) f f' (D ++ E) (tup tl l) (lup EL l E) (lup CL l C) (if kdf n T i = 17 then nv + 1 else nv) (c0 + C.length) h1 h4 (by omega) (by omega) (by omega) (by omega) a2 a3 a4 b4 b6 sm' (by omega) (by omega) with ⟨e, g1, g2, q1, q2, q3, q4, q5, q6, q7⟩ | ⟨D', tl', EL', CL', nv', c0', g1, g2, q1, q2, q3, q4, q5, q6, q7, q8, q9, q10, q11⟩
        · exact Or.inl ⟨e, g1, g2, q1, q2, by rw [ec, q3], by rw [b1, q4], q5, fq_t f1 q6, FLr_t b7 q7⟩
        · exact Or.inr ⟨D', tl', EL', CL', nv', c0', g1, g2, by rw [ec, q1], by rw [b1, q2], q3, q4, q5, q6, q7, q8, q9, fq_t f1 q10, FLr_t b7 q11⟩
end
/-! the class's start and copy -/
theorem start_x {N n : Nat} {T : Nat → Nat} {r : Bool} {F : Nat} {h : PH} (B : TB (n, T)) (C : TpC (n, T) h) (hN : 2000 ≤ N) (hF : F ≤ 6) : okV (F_X5_start N (if r then 1 else 0) (nI F) h) (fun h' => ∃ m, PaS n T m r F 0 [] h' ∧ h'.1 4 1 = 0 ∧ (∀ l, l < 25 → h'.1 7 l = 0 ∧ h'.1 8 l = 0) ∧ h'.1 1 1 = 0 ∧ fq [3, 4, 7, 8, 10, 11, 12, 13] [(1, 1)] h h') := by
  have b1 : n ≤ 1000 := B.1
  unfold F_X5_start
  refine okV_bV (okV_m (take_x B C hN) (fun h2 q => ?_))
  obtain ⟨⟨m, tk⟩, t1, f2⟩ := q
  have z1 : zb (if r then 1 else 0) = true := zb_b
  unfold F_X2_clear
  simp only [hb_e, bV_s]
  rw [if_pos z1]
  generalize hk : hs (hs (hs (hs (hs (hs (hs (hfill (hfill h2 (4 + 3) 25 0) (4 + 4) 25 0) 4 6 0) 4 1 0) 3 7 (if r then 1 else 0)) 3 6 (nI F)) 3 5 0) 3 2 (-1)) 3 3 1 = h3
  have o : ∀ k j, k ≠ 3 → k ≠ 4 → k ≠ 7 → k ≠ 8 → h3.1 k j = h2.1 k j := fun k j q1 q2 q3 q4 => by
    rw [← hk]
    simp only [hs_1, hf_1]
    rw [if_neg q1, if_neg q1, if_neg q1, if_neg q1, if_neg q1, if_neg q2, if_neg q2, if_neg (by omega), if_neg (by omega)]
  have p2 : h3.1 3 2 = -1 := by rw [← hk]; simp [hs_1]
  have p3 : h3.1 3 3 = 1 := by rw [← hk]; simp [hs_1]
  have p5 : h3.1 3 5 = 0 := by rw [← hk]; simp [hs_1]
  have p6 : h3.1 3 6 = nI F := by rw [← hk]; simp [hs_1]
  have p7 : h3.1 3 7 = (if r then 1 else 0) := by rw [← hk]; simp [hs_1]
  have d6 : h3.1 4 6 = 0 := by rw [← hk]; simp [hs_1]
  have d1 : h3.1 4 1 = 0 := by rw [← hk]; simp [hs_1]
  have d7 : ∀ l, l < 25 → h3.1 7 l = 0 ∧ h3.1 8 l = 0 := fun l hl => by
    rw [← hk]
    simp only [hs_1, hf_1]
    simp [hl]
  have tk3 : TkC n T m h3 := ⟨tk.1, tk.2.1, tk.2.2.1, fun i hi => by rw [o 11 i (by omega) (by omega) (by omega) (by omega), o 12 i (by omega) (by omega) (by omega) (by omega), o 13 i (by omega) (by omega) (by omega) (by omega)]; exact tk.2.2.2 i hi⟩
  have fA : fq [3, 4, 7, 8, 10, 11, 12, 13] [(1, 1)] h h3 := by
    refine fq_t (fq_w f2 (by simp) (by simp)) (fun k j q1 q2 => o k j ?_ ?_ ?_ ?_) <;> (rintro rfl; exact absurd q1 (by decide))
  have adv : F_X5_advance h3 = some (hs (hs (hs h3 3 2 (nI 0)) 3 3 (nI (tkk n T (tkb n T 0)))) 3 4 (nI (tkv n T (tkb n T 0)))) := by
    unfold F_X5_advance
    rw [p3, if_neg (by decide), p2, if_neg (by decide)]
    simp only [hb_e]
    have e0 : (-1 : Int32) + 1 = nI 0 := by decide
    rw [e0]
    have t0 := tk3.2.2.2 0 (Nat.zero_le _)
    have e1 : (hs h3 3 2 (nI 0)).1 3 2 = nI 0 := by simp [hs_1]
    have e2 : (hs h3 3 2 (nI 0)).1 11 0 = nI (tkk n T (tkb n T 0)) := by rw [hs_1, if_neg (by decide)]; exact t0.1
    rw [e1, if_pos (by decide), show (nI 0).toNatClampNeg = 0 from by decide, e2]
    have e3 : (hs (hs h3 3 2 (nI 0)) 3 3 (nI (tkk n T (tkb n T 0)))).1 3 2 = nI 0 := by simp [hs_1]
    have e4 : (hs (hs h3 3 2 (nI 0)) 3 3 (nI (tkk n T (tkb n T 0)))).1 12 0 = nI (tkv n T (tkb n T 0)) := by rw [hs_1, if_neg (by decide), hs_1, if_neg (by decide)]; exact t0.2.1
    rw [e3, if_pos (by decide), show (nI 0).toNatClampNeg = 0 from by decide, e4]
  rw [adv, bV_s]
  refine okV_s ⟨m, ⟨⟨⟨tk.1, tk.2.1, tk.2.2.1, fun i hi => ?_⟩, b1, ?_, ?_, hF⟩, Nat.zero_le _, ?_, ?_, ?_, ?_, ?_, by simp, fun t ht => by simp at ht⟩, ?_, fun l hl => ?_, ?_, ?_⟩
  · simp [hs_1]; exact tk3.2.2.2 i hi
  · simp [hs_1]; exact p6
  · simp [hs_1]; exact p7
  · simp [hs_1]
  · simp [hs_1]
  · simp [hs_1]
  · simp [hs_1]; exact p5
  · simp [hs_1]; exact d6
  · simp [hs_1]; exact d1
  · simp [hs_1]; exact d7 l hl
  · simp [hs_1]; rw [o 1 1 (by omega) (by omega) (by omega) (by omega)]; exact t1
  · exact fq_s (fq_s (fq_s fA (Or.inl (by decide))) (Or.inl (by decide))) (Or.inl (by decide))
theorem copy_x {o s : Nat} {h : PH} (ho : o = 15 ∨ o = 58) (hs4 : h.1 4 6 = nI s) (h1 : s ≤ 1000) : okV (F_X2_copy o h) (fun h' => (∀ t, t < s → h'.1 (o + 2) t = h.1 6 t) ∧ (∀ l, l < 25 → h'.1 (o + 3) l = h.1 7 l ∧ h'.1 (o + 4) l = h.1 8 l) ∧ h'.1 o 1 = h.1 4 1 ∧ fq [o, o + 2, o + 3, o + 4] [] h h') := by
  have cp : ∀ (a b : Nat → Int32) (k t : Nat), t < k → va_cpy a b (0 : Int32).toNatClampNeg (0 : Int32).toNatClampNeg k t = a t := fun a b k t ht => by
    rw [sb_cl0, pk_cpy_in (Nat.zero_le _) (by omega)]
    simp
  have ok : cpok 0 0 (nI s) 1000 1000 = true := by
    unfold cpok
    rw [decide_eq_true_iff, sb_cl0, nI_clamp (by omega)]
    exact ⟨by decide, by decide, nI_pos (by omega), by omega, by omega⟩
  unfold F_X2_copy
  rw [hs4, if_pos ok, nI_clamp (by omega)]
  simp only [hb_e]
  rw [if_pos (by decide), show (25 : Int32).toNatClampNeg = 25 from by decide]
  generalize hh2 : hsA h (o + 2) (va_cpy (h.1 6) (h.1 (o + 2)) (0 : Int32).toNatClampNeg (0 : Int32).toNatClampNeg s) = h2
  have o2 : ∀ k, k ≠ o + 2 → h2.1 k = h.1 k := fun k q => by rw [← hh2, hsA_1, if_neg q]
  have c2 : ∀ t, t < s → h2.1 (o + 2) t = h.1 6 t := fun t ht => by rw [← hh2, hsA_1, if_pos rfl]; exact cp _ _ _ _ ht
  generalize hh3 : hsA h2 (o + 3) (va_cpy (h2.1 7) (h2.1 (o + 3)) (0 : Int32).toNatClampNeg (0 : Int32).toNatClampNeg 25) = h3
  have o3 : ∀ k, k ≠ o + 3 → h3.1 k = h2.1 k := fun k q => by rw [← hh3, hsA_1, if_neg q]
  have c3 : ∀ t, t < 25 → h3.1 (o + 3) t = h2.1 7 t := fun t ht => by rw [← hh3, hsA_1, if_pos rfl]; exact cp _ _ _ _ ht
  generalize hh4 : hsA h3 (o + 4) (va_cpy (h3.1 8) (h3.1 (o + 4)) (0 : Int32).toNatClampNeg (0 : Int32).toNatClampNeg 25) = h4
  have o4 : ∀ k, k ≠ o + 4 → h4.1 k = h3.1 k := fun k q => by rw [← hh4, hsA_1, if_neg q]
  have c4 : ∀ t, t < 25 → h4.1 (o + 4) t = h3.1 8 t := fun t ht => by rw [← hh4, hsA_1, if_pos rfl]; exact cp _ _ _ _ ht
  refine okV_s ⟨fun t ht => ?_, fun l hl => ⟨?_, ?_⟩, ?_, ?_⟩
  · rw [hs_1, if_neg (by omega), hs_1, if_neg (by omega), o4 _ (by omega), o3 _ (by omega)]; exact c2 t ht
  · rw [hs_1, if_neg (by omega), hs_1, if_neg (by omega), o4 _ (by omega), c3 l hl, o2 _ (by omega)]
  · rw [hs_1, if_neg (by omega), hs_1, if_neg (by omega), c4 l hl, o3 _ (by omega), o2 _ (by omega)]
  · rw [hs_1, if_pos rfl, if_pos rfl, hs_1, if_neg (by omega), o4 _ (by omega), o3 _ (by omega), o2 _ (by omega)]
  · intro k j q1 q2
    have k1 : k ≠ o := fun e => q1 (by simp [e])
    have k2 : k ≠ o + 2 := fun e => q1 (by simp [e])
    have k3 : k ≠ o + 3 := fun e => q1 (by simp [e])
    have k4 : k ≠ o + 4 := fun e => q1 (by simp [e])
    rw [hs_1, if_neg k1, hs_1, if_neg k1, o4 _ k4, o3 _ k3, o2 _ k2]
