/-! a line, and all lines: the reference -/
def FLr (h h' : PH) : Prop := fq [108, 109, 110, 111, 112, 113] K6 h h' ∧ ∀ t, t < 2000 → h'.1 111 t = h.1 111 t
theorem FLr_t {h h' h2 : PH} (a : FLr h h') (b : FLr h' h2) : FLr h h2 := ⟨fq_t a.1 b.1, fun t ht => (b.2 t ht).trans (a.2 t ht)⟩
theorem FLr_m {c : Nat} {h h' : PH} (hc : 2000 ≤ c) (f : MFr c h h') : FLr h h' := ⟨fq_w f.1 (by simp) (fun q z => Or.inl z), fun t ht => f.2.1 t (by omega)⟩
theorem FLr_s {h : PH} {k j : Nat} {x : Int32} (hk : k = 108 ∨ k = 109 ∨ k = 110) : FLr h (hs h k j x) := ⟨fq_s fq_0 (Or.inl (by rcases hk with rfl | rfl | rfl <;> decide)), fun t _ => by rw [hs_1, if_neg (by omega)]⟩
def MlL (tl : Nat → Bool) (CL : Nat → List Nat) (c0 : Nat) (h : PH) : Prop := ∀ l, l < 25 → if tl l then h.1 108 l = 1 ∧ ∃ k, 2000 ≤ k ∧ k + (CL l).length ≤ c0 ∧ h.1 109 l = nI k ∧ h.1 110 l = nI (k + (CL l).length) ∧ cAt h k (CL l) else h.1 108 l = 0
section
variable {n : Nat} {T : Nat → Nat} {m : Nat} {F c0 : Nat}
theorem MlL_f {tl : Nat → Bool} {CL : Nat → List Nat} {h h' : PH} (L : MlL tl CL c0 h) (f : MFr c0 h h') : MlL tl CL c0 h' := by
  intro l hl
  have := L l hl
  rw [f.1 108 l (by decide) (by simp [K6])]
  by_cases g : tl l = true
  · rw [if_pos g] at this ⊢
    obtain ⟨a, k, k0, k1, k2, k3, k4⟩ := this
    refine ⟨a, k, k0, k1, ?_, ?_, fun t ht => ?_⟩
    · rw [f.1 109 l (by decide) (by simp [K6])]; exact k2
    · rw [f.1 110 l (by decide) (by simp [K6])]; exact k3
    · rw [f.2.1 (k + t) (by omega)]; exact k4 t ht
  · rw [if_neg g] at this ⊢; exact this
theorem rl227 {N i l : Nat} {tl : Nat → Bool} {CL : Nat → List Nat} {h : PH} (S : MaS n T m false F 2000 c0 i [] h) (L : MlL tl CL c0 h) (hl : l < 25) : okI (F_X12_readsLine_b227 N (nI l) h) (fun v h' => (if tl l then v = -1 ∧ h'.1 103 10 = nI (3 + 16 * tkb n T i) else v = nI l ∧ MaS n T m false F 2000 c0 i [] h') ∧ MFr c0 h h') := by
  have := L l hl
  unfold F_X12_readsLine_b227
  rw [if_pos (nI_in0 (by omega) (by omega)), nI_clamp (by omega)]
  by_cases g : tl l = true
  · rw [if_pos g] at this
    rw [if_neg (by rw [this.1]; decide)]
    refine okI_bI (okI_m (mfails (k := 3) S) (fun v h' q => okI_s ⟨?_, q.2.2⟩))
    rw [if_pos g]
    exact ⟨rfl, q.2.1⟩
  · rw [if_neg g] at this
    rw [if_pos this]
    refine okI_s ⟨?_, MFr_0⟩
    rw [if_neg g]
    exact ⟨rfl, S⟩
theorem readsLine_x {N i nv : Nat} {tl : Nat → Bool} {CL : Nat → List Nat} {h : PH} (B : TB (n, T)) (hN : 2000 ≤ N) (S : MaS n T m false F 2000 c0 i [] h) (L : MlL tl CL c0 h) (nvb : nv ≤ 6) : okI (F_X12_readsLine N (nI nv) h) (fun v h' => (match spH tl nv (kdf n T) (vlf n T) i with
    | .inl (k, j) => v = -1 ∧ h'.1 103 10 = nI (k + 16 * tkb n T j)
    | .inr (l, j) => v = nI l ∧ l < 25 ∧ i ≤ j ∧ MaS n T m false F 2000 c0 j [] h') ∧ MFr c0 h h') := by
  have kl : kdf n T i < 35 := kd_le n T (tkb n T i)
  have wr : F_X12_isWord 9673153 h = _ := mWord B S 0 (x := 9673153) (by omega) (by decide)
  have wu : F_X12_isWord 583 h = _ := mWord B S 1 (x := 583) (by omega) (by decide)
  have wd : F_X12_isWord 90302 h = _ := mWord B S 2 (x := 90302) (by omega) (by decide)
  have wo : F_X12_isWord 90090 h = _ := mWord B S 3 (x := 90090) (by omega) (by decide)
  have wl : F_X12_isWord 237292 h = _ := mWord B S 4 (x := 237292) (by omega) (by decide)
  have wn : F_X12_isWord 7554780 h = _ := mWord B S 5 (x := 7554780) (by omega) (by decide)
  rw [show 12 + 0 = 12 from rfl] at wr
  rw [show 12 + 1 = 13 from rfl] at wu
  rw [show 12 + 2 = 14 from rfl] at wd
  rw [show 12 + 3 = 15 from rfl] at wo
  rw [show 12 + 4 = 16 from rfl] at wl
  rw [show 12 + 5 = 17 from rfl] at wn
  unfold F_X12_readsLine spH
  rw [wu, bI_s]
  have three : ∀ l : Nat, l < 25 → (kdf n T i = 13 ∨ kdf n T i = 14 ∨ kdf n T i = 15) → l = kdf n T i - 5 → okI (F_X12_readsLine_b46 N (nI nv) (nI l) h) (fun v h' => (match (if tl (kdf n T i - 5) then .inl (3, i) else .inr (kdf n T i - 5, i) : HD) with
      | .inl (k, j) => v = -1 ∧ h'.1 103 10 = nI (k + 16 * tkb n T j)
      | .inr (l, j) => v = nI l ∧ l < 25 ∧ i ≤ j ∧ MaS n T m false F 2000 c0 j [] h') ∧ MFr c0 h h') := fun l hl q hq => by
    unfold F_X12_readsLine_b46 F_X12_readsLine_b89
    rw [if_pos (nI_pos' (by omega)), wn, bI_s, if_neg (show ¬ kdf n T i = 17 by omega), if_pos rfl, if_pos (nI_pos' (by omega))]
    refine okI_m (rl227 S L hl) (fun v h' z => ⟨?_, z.2⟩)
    have z1 := z.1
    rw [hq] at z1
    by_cases g : tl (kdf n T i - 5) = true
    · rw [if_pos g] at z1 ⊢; exact z1
    · rw [if_neg g] at z1 ⊢; exact ⟨z1.1, by omega, Nat.le_refl _, z1.2⟩
  by_cases g13 : kdf n T i = 13
  · rw [if_pos g13, if_neg (by decide), if_neg (show ¬ kdf n T i = 12 by omega), if_pos (Or.inl g13)]
    exact three 8 (by omega) (Or.inl g13) (by omega)
  · rw [if_neg g13, if_pos rfl, wd, bI_s]
    by_cases g14 : kdf n T i = 14
    · rw [if_pos g14, if_neg (by decide), if_neg (show ¬ kdf n T i = 12 by omega), if_pos (Or.inr (Or.inl g14))]
      exact three 9 (by omega) (Or.inr (Or.inl g14)) (by omega)
    · rw [if_neg g14, if_pos rfl, wo, bI_s]
      by_cases g15 : kdf n T i = 15
      · rw [if_pos g15, if_neg (by decide), if_neg (show ¬ kdf n T i = 12 by omega), if_pos (Or.inr (Or.inr g15))]
        exact three 10 (by omega) (Or.inr (Or.inr g15)) (by omega)
      · rw [if_neg g15, if_pos rfl]
        unfold F_X12_readsLine_b46
        rw [if_neg (by decide), wr, bI_s]
        by_cases g12 : kdf n T i = 12
        · rw [if_pos g12, if_neg (by decide), if_pos g12]
          unfold F_X12_readsLine_b89
          rw [wn, bI_s, if_neg (show ¬ kdf n T i = 17 by omega), if_pos rfl, if_neg (by decide), wr, bI_s, if_pos g12]
          have hi : i < m := mEnd S (by omega)
          obtain ⟨h2, e2, S2, f2⟩ := mnext B hN S hi
          have kn := kd_num B S2.1 (tkb_le (i + 1)).2
          rw [e2, bV_s, if_neg (by decide)]
          by_cases g3 : kdf n T (i + 1) = 3
          · have k3 := kn.2.2.1.mpr g3
            have v3 := kn.2.2.2.2.1 g3
            have v3a : h2.2 103 8 = lN (vlf n T (i + 1) + 1) := v3.1
            have v3b : vlf n T (i + 1) < 8 := v3.2
            have le8 : lg_cmp (h2.2 103 8) 8 ≤ 0 := by
              rw [← Int32.not_lt, lgc_p, v3a]
              intro z
              have := (pk_lLT (a := 8) (by omega) (by omega)).mp z
              omega
            rw [if_pos k3.1, if_pos le8, if_pos g3]
            unfold F_X12_readsLine_b184 F_X12_readsLine_b205 F_X12_readsLine_b226
            rw [if_neg (by decide), if_neg (by decide), v3a, lN_i, nI_m1 (by omega), Nat.add_sub_cancel]
            refine okI_m (rl227 S2 (MlL_f L (MFr_n f2)) (by omega)) (fun v h' z => ⟨?_, MFr_t (MFr_n f2) z.2⟩)
            have z1 := z.1
            by_cases g : tl (vlf n T (i + 1)) = true
            · rw [if_pos g] at z1 ⊢; exact z1
            · rw [if_neg g] at z1 ⊢; exact ⟨z1.1, by omega, by omega, z1.2⟩
          · rw [if_neg g3]
            unfold F_X12_readsLine_b176
            have fl : okI (bI (F_X12_fails 1 h2) fun r1 h2 => some ((-1 : Int32), h2)) (fun v h' => (v = -1 ∧ h'.1 103 10 = nI (1 + 16 * tkb n T (i + 1))) ∧ MFr c0 h h') := okI_bI (okI_m (mfails (k := 1) S2) (fun v h' q => okI_s ⟨⟨rfl, q.2.1⟩, MFr_t (MFr_n f2) q.2.2⟩))
            by_cases g1 : h2.1 103 7 = 1
            · rw [if_pos g1]
              obtain ⟨w, w1, w2, w3⟩ := kn.2.2.2.2.2 g1
              have w8 : ¬ lg_cmp (h2.2 103 8) 8 ≤ 0 := fun z => by
                rw [← Int32.not_lt, lgc_p, w3] at z
                have : ¬ 8 < w := fun q => z ((pk_lLT (a := 8) (by omega) w2).mpr q)
                exact g3 (kn.2.2.1.mp ⟨g1, w, by omega, w3⟩)
              rw [if_neg w8]
              exact fl
            · rw [if_neg g1]
              exact fl
        · rw [if_neg g12, if_pos rfl, wl, bI_s, if_neg g12, if_neg (show ¬ (kdf n T i = 13 ∨ kdf n T i = 14 ∨ kdf n T i = 15) by omega)]
          by_cases g16 : kdf n T i = 16
          · rw [if_pos g16, if_neg (by decide), if_pos g16]
            unfold F_X12_readsLine_b89
            rw [wn, bI_s, if_neg (show ¬ kdf n T i = 17 by omega), if_pos rfl, if_neg (by decide), wr, bI_s, if_neg g12]
            have hi : i < m := mEnd S (by omega)
            obtain ⟨h2, e2, S2, f2⟩ := mnext B hN S hi
            have kn := kd_num B S2.1 (tkb_le (i + 1)).2
            rw [e2, bV_s, if_pos rfl]
            by_cases g3 : kdf n T (i + 1) = 2
            · have v3 := kn.2.2.2.1 g3
              have v3a : h2.1 103 9 = nI (vlf n T (i + 1)) := v3.1
              have v3b : vlf n T (i + 1) < 10000 := v3.2
              rw [if_pos (kn.1.mpr g3), if_pos g3]
              unfold F_X12_readsLine_b184 F_X12_readsLine_b205 F_X12_readsLine_b226
              rw [if_pos rfl, v3a]
              by_cases g8 : vlf n T (i + 1) < 8
              · rw [if_pos ((n_le_l 7 (by omega) (by omega)).mpr (by omega)), if_pos rfl, if_pos g8, show (11 : Int32) = nI 11 from rfl, nI_add]
                refine okI_m (rl227 S2 (MlL_f L (MFr_n f2)) (by omega)) (fun v h' z => ⟨?_, MFr_t (MFr_n f2) z.2⟩)
                have z1 := z.1
                by_cases g : tl (11 + vlf n T (i + 1)) = true
                · rw [if_pos g] at z1 ⊢; exact z1
                · rw [if_neg g] at z1 ⊢; exact ⟨z1.1, by omega, by omega, z1.2⟩
              · rw [if_neg (fun z => by have := (n_le_l 7 (by omega) (by omega)).mp z; omega), if_neg g8]
                exact okI_bI (okI_m (mfails (k := 4) S2) (fun v h' q => okI_s ⟨⟨rfl, q.2.1⟩, MFr_t (MFr_n f2) q.2.2⟩))
            · rw [if_neg (fun z => g3 (kn.1.mp z)), if_neg g3]
              unfold F_X12_readsLine_b176
              exact okI_bI (okI_m (mfails (k := 1) S2) (fun v h' q => okI_s ⟨⟨rfl, q.2.1⟩, MFr_t (MFr_n f2) q.2.2⟩))
          · rw [if_neg g16, if_pos rfl, wn, bI_s, if_neg g16]
            by_cases g17 : kdf n T i = 17
            · rw [if_pos g17, if_neg (by decide), if_pos g17]
              unfold F_X12_readsLine_b89 F_X12_readsLine_b111
              rw [wn, bI_s, if_pos g17, if_neg (by decide)]
              by_cases g6 : nv < 6
              · rw [if_neg (fun z => by have := (n_eq_l 6 (by omega) (by omega)).mp z; omega), if_neg (fun z => by have := (n_eq_l 6 (by omega) (by omega)).mp z; omega), if_pos g6, show (19 : Int32) = nI 19 from rfl, nI_add]
                exact okI_s ⟨⟨rfl, by omega, Nat.le_refl _, S⟩, MFr_0⟩
              · rw [if_pos ((n_eq_l 6 (by omega) (by omega)).mpr (by omega)), if_neg g6]
                refine okI_bI (okI_m (mfails (k := 5) S) (fun v h' q => ?_))
                rw [if_pos ((n_eq_l 6 (by omega) (by omega)).mpr (by omega))]
                exact okI_s ⟨⟨rfl, q.2.1⟩, q.2.2⟩
            · rw [if_neg g17, if_pos rfl, if_neg g17]
              exact okI_bI (okI_m (mfails (k := 1) S) (fun v h' q => okI_s ⟨⟨rfl, q.2.1⟩, q.2.2⟩))
/-- from E on: codes put, the line told -/
theorem rc56_x {N s l c0 : Nat} {tl : Nat → Bool} {CL : Nat → List Nat} {h : PH} {rc : Int32 → PH → Option (Int32 × PH)} {x1 : Int32} (B : TB (n, T)) (hN : 2000 ≤ N) (hl : l < 25) (S : MaS n T m false F 2000 c0 s [] h) (hc : c0 ≤ 2000 + s) (hc2 : 2000 ≤ c0) (L : MlL tl CL c0 h) (ht : tl l = false) : match spE (kdf n T) (spP false F (kdf n T) (vlf n T) 5) s with
    | .inl (k, j) => okI (F_X12_readsCircuit_b56 N rc x1 (nI l) h) (fun v h' => v = 0 ∧ h'.1 103 10 = nI (k + 16 * tkb n T j) ∧ FLr h h')
    | .inr (e, E, C) => if kdf n T e = 11 then ∃ h', F_X12_readsCircuit_b56 N rc x1 (nI l) h = rc x1 h' ∧ s < e ∧ e < m ∧ C.length + s ≤ e ∧ MaS n T m false F 2000 (c0 + C.length) (e + 1) [] h' ∧ MlL (tup tl l) (lup CL l C) (c0 + C.length) h' ∧ FLr h h' else okI (F_X12_readsCircuit_b56 N rc x1 (nI l) h) (fun v h' => v = 0 ∧ h'.1 103 10 = nI (1 + 16 * tkb n T e) ∧ FLr h h') := by
  have wk : ∀ {a b : PH}, MFr c0 a b → FLr a b := fun f => FLr_m hc2 f
  have e0 : ∀ o : Option (Int32 × PH), F_X12_reads N (hs h 109 l (nI c0)) = o → F_X12_readsCircuit_b56 N rc x1 (nI l) h = bI o (fun r3 h4 => if r3 = 0 then some (0, h4) else hb (hs h4 110 l (h4.1 103 18)) (fun h7 => hb (hs h7 108 l 1) (fun h8 => rc x1 h8))) := fun o ho => by
    unfold F_X12_readsCircuit_b56
    have hin : inb (nI l) 26 = true := nI_in0 (by omega) (by omega)
    simp only [hin, if_true]
    rw [nI_clamp (by omega), S.2.2.2.2.1, List.length_nil, Nat.add_zero, hb_e, ho, show vp_nar .boolean (1 : Int32) = 1 from by decide]
  have S1 : MaS n T m false F 2000 c0 s [] (hs h 109 l (nI c0)) := MaS_o S (fun k j q => by rw [hs_1, if_neg (by omega)]) rfl
  have f1 : FLr h (hs h 109 l (nI c0)) := FLr_s (Or.inr (Or.inl rfl))
  have rd := reads_x (r := false) B hN S1 hc
  cases hs0 : spE (kdf n T) (spP false F (kdf n T) (vlf n T) 5) s with
  | inl e =>
    obtain ⟨k, j⟩ := e
    rw [hs0] at rd
    obtain ⟨v, h2, e2, rfl, q2, q3⟩ := rd
    rw [e0 _ e2, bI_s, if_pos rfl]
    exact okI_s ⟨rfl, q2, FLr_t f1 (wk q3)⟩
  | inr q =>
    obtain ⟨e, E, C⟩ := q
    rw [hs0] at rd
    simp only [Bool.false_eq_true, if_false] at rd
    show if kdf n T e = 11 then ∃ h', F_X12_readsCircuit_b56 N rc x1 (nI l) h = rc x1 h' ∧ s < e ∧ e < m ∧ C.length + s ≤ e ∧ MaS n T m false F 2000 (c0 + C.length) (e + 1) [] h' ∧ MlL (tup tl l) (lup CL l C) (c0 + C.length) h' ∧ FLr h h' else okI (F_X12_readsCircuit_b56 N rc x1 (nI l) h) (fun v h' => v = 0 ∧ h'.1 103 10 = nI (1 + 16 * tkb n T e) ∧ FLr h h')
    by_cases g : kdf n T e = 11
    · rw [if_pos g] at rd ⊢
      obtain ⟨v, h2, e2, rfl, a1, a2, ⟨a3, a4⟩, a5, a6, a7⟩ := rd
      refine ⟨hs (hs h2 110 l (nI (c0 + C.length))) 108 l 1, ?_, a1, a3, a2, ?_, ?_, ?_⟩
      · rw [e0 _ e2, bI_s, if_neg (by decide), a5]
        rfl
      · have a4' : MaS n T m false F 2000 c0 (e + 1) C (hs (hs h2 110 l (nI (c0 + C.length))) 108 l 1) := MaS_o a4 (fun k j q => by rw [hs_1, if_neg (by omega), hs_1, if_neg (by omega)]) rfl
        obtain ⟨b1, b2, b3, b4, b5, b6, b7, b8⟩ := a4'
        exact ⟨b1, b2, b3, b4, by rw [b5]; simp, fun t ht => by simp at ht, by simp; omega, b8⟩
      · intro x hx
        have o8 : ∀ y, (hs (hs h2 110 l (nI (c0 + C.length))) 108 l 1).1 108 y = if y = l then 1 else h.1 108 y := fun y => by
          rw [hs_1, if_pos rfl, hs_1, if_neg (show ¬ (108 : Nat) = 110 by decide), a7.1 108 y (by decide) (by simp [K6]), hs_1, if_neg (show ¬ (108 : Nat) = 109 by decide)]
        have o9 : ∀ y, (hs (hs h2 110 l (nI (c0 + C.length))) 108 l 1).1 109 y = if y = l then nI c0 else h.1 109 y := fun y => by
          rw [hs_1, if_neg (by decide), hs_1, if_neg (by decide), a7.1 109 y (by decide) (by simp [K6]), hs_1, if_pos rfl]
        have o10 : ∀ y, (hs (hs h2 110 l (nI (c0 + C.length))) 108 l 1).1 110 y = if y = l then nI (c0 + C.length) else h.1 110 y := fun y => by
          rw [hs_1, if_neg (by decide), hs_1, if_pos rfl, a7.1 110 y (by decide) (by simp [K6]), hs_1, if_neg (show ¬ (110 : Nat) = 109 by decide)]
        have o11 : ∀ y, (hs (hs h2 110 l (nI (c0 + C.length))) 108 l 1).1 111 y = h2.1 111 y := fun y => by
          rw [hs_1, if_neg (by decide), hs_1, if_neg (by decide)]
        rw [o8, o9, o10]
        unfold tup lup
        by_cases q : x = l
        · rw [if_pos q, if_pos q, if_pos q, if_pos q, if_pos q, if_pos rfl]
          refine ⟨rfl, c0, hc2, Nat.le_refl _, rfl, rfl, fun t ht => ?_⟩
          rw [o11]
          exact a6 t ht
        · rw [if_neg q, if_neg q, if_neg q, if_neg q, if_neg q]
          have := L x hx
          by_cases g2 : tl x = true
          · rw [if_pos g2] at this ⊢
            obtain ⟨a, k, k0, k1, k2, k3, k4⟩ := this
            refine ⟨a, k, k0, by omega, k2, k3, fun t ht => ?_⟩
            rw [o11, a7.2.1 (k + t) (by omega), hs_1, if_neg (by decide)]
            exact k4 t ht
          · rw [if_neg g2] at this ⊢; exact this
      · exact FLr_t f1 (FLr_t (wk a7) (FLr_t (FLr_s (Or.inr (Or.inr rfl))) (FLr_s (Or.inl rfl))))
    · rw [if_neg g] at rd ⊢
      obtain ⟨v, h2, e2, rfl, q2, q3⟩ := rd
      rw [e0 _ e2, bI_s, if_pos rfl]
      exact okI_s ⟨rfl, q2, FLr_t f1 (wk q3)⟩
/-- a line of the reference -/
theorem mline_x {N i nv c0 fu : Nat} {tl : Nat → Bool} {CL : Nat → List Nat} {h : PH} (B : TB (n, T)) (hN : 2000 ≤ N) (S : MaS n T m false F 2000 c0 i [] h) (L : MlL tl CL c0 h) (nvb : nv ≤ 6) (hc : c0 ≤ 2000 + i) (hc2 : 2000 ≤ c0) (hi : i < m) (tn : ∀ x, x < 6 → (tl (19 + x) = true ↔ x < nv)) : match spLn F tl nv (kdf n T) (vlf n T) i with
    | .inl (k, j) => okI (F_X12_readsCircuit_b2 N (fu + 1) (nI nv) h) (fun v h' => v = 0 ∧ h'.1 103 10 = nI (k + 16 * tkb n T j) ∧ FLr h h')
    | .inr (l, i', E, C) => ∃ h', F_X12_readsCircuit_b2 N (fu + 1) (nI nv) h = F_X12_readsCircuit_b2 N fu (nI (if kdf n T i = 17 then nv + 1 else nv)) h' ∧ l < 25 ∧ i < i' ∧ MaS n T m false F 2000 (c0 + C.length) i' [] h' ∧ C.length + i ≤ i' ∧ MlL (tup tl l) (lup CL l C) (c0 + C.length) h' ∧ FLr h h' := by
  have kl : kdf n T i < 35 := kd_le n T (tkb n T i)
  have kn := kd_num B S.1 (tkb_le i).2
  have wk : ∀ {a b : PH}, MFr c0 a b → FLr a b := fun f => FLr_m hc2 f
  have k0 : ¬ kdf n T i = 0 := fun z => by
    have := (kd_end ⟨S.2.2.2.2.2.2.2.2.2.2.1, S.2.2.2.2.2.2.2.2.2.2.2.1, S.2.2.2.2.2.2.2.2.2.2.2.2⟩ S.2.1).mp z
    omega
  obtain ⟨v, h2, e2, P2, f2⟩ := readsLine_x (nv := nv) B hN S L nvb
  have e0 : F_X12_readsCircuit_b2 N (fu + 1) (nI nv) h = if 0 ≤ v then bV (F_X12_nextToken N h2) (fun h6 => if (19 : Int32) ≤ v then ib (nI nv + 1) (fun v8 => F_X12_readsCircuit_b56 N (F_X12_readsCircuit_b2 N fu) v8 v h6) else bI (F_X12_isSign 61 h6) (fun r9 h10 => if r9 = 0 then F_X12_readsCircuit_b40 N h10 else bV (F_X12_nextToken N h10) (fun h13 => F_X12_readsCircuit_b56 N (F_X12_readsCircuit_b2 N fu) (nI nv) v h13))) else some (0, h2) := by
    rw [F_X12_readsCircuit_b2, if_neg (fun z => k0 (kn.2.1.mp z)), e2, bI_s]
  unfold spLn
  cases hh : spH tl nv (kdf n T) (vlf n T) i with
  | inl e =>
    obtain ⟨k, j⟩ := e
    rw [hh] at P2
    obtain ⟨rfl, q2⟩ := P2
    show okI (F_X12_readsCircuit_b2 N (fu + 1) (nI nv) h) (fun v h' => v = 0 ∧ h'.1 103 10 = nI (k + 16 * tkb n T j) ∧ FLr h h')
    rw [e0, if_neg (by decide)]
    exact okI_s ⟨rfl, q2, wk f2⟩
  | inr q =>
    obtain ⟨l, j⟩ := q
    rw [hh] at P2
    obtain ⟨rfl, hl, hij, S2⟩ := P2
    have hs1 := spH_le hh
    have hs2 := spH_n hh (kd2 n T (tkb n T (i + 1))).2
    have tlf : tl l = false := by
      rcases hs1 with z | ⟨z1, z2⟩
      · exact z
      · cases w : tl l with
        | false => rfl
        | true =>
          rw [z2] at w
          rcases hs2 with ⟨q1, q2, q3⟩ | ⟨q1, q2⟩
          · have := (tn nv q3).mp w
            omega
          · omega
    have jk : j < m := by
      have : kdf n T j ≠ 0 := by
        unfold spH at hh
        repeat' split at hh
        all_goals first | (cases hh; omega) | (cases hh)
      exact mEnd S2 this
    obtain ⟨h3, e3, S3, f3⟩ := mnext B hN S2 jk
    rw [if_pos (nI_pos' (by omega)), e3, bV_s] at e0
    have L3 := MlL_f (MlL_f L f2) (MFr_n (c0 := c0) f3)
    have f23 : FLr h h3 := FLr_t (wk f2) (wk (MFr_n f3))
    have fin : ∀ (s : Nat) (h4 : PH) (x : Int32), MaS n T m false F 2000 c0 s [] h4 → MlL tl CL c0 h4 → FLr h h4 → i < s → x = nI (if kdf n T i = 17 then nv + 1 else nv) → F_X12_readsCircuit_b2 N (fu + 1) (nI nv) h = F_X12_readsCircuit_b56 N (F_X12_readsCircuit_b2 N fu) x (nI l) h4 → match (match spE (kdf n T) (spP false F (kdf n T) (vlf n T) 5) s with
        | .inl e => .inl e
        | .inr (e, E, C) => if kdf n T e = 11 then .inr (l, e + 1, E, C) else .inl (1, e) : LNo) with
        | .inl (k, j) => okI (F_X12_readsCircuit_b2 N (fu + 1) (nI nv) h) (fun v h' => v = 0 ∧ h'.1 103 10 = nI (k + 16 * tkb n T j) ∧ FLr h h')
        | .inr (l, i', E, C) => ∃ h', F_X12_readsCircuit_b2 N (fu + 1) (nI nv) h = F_X12_readsCircuit_b2 N fu (nI (if kdf n T i = 17 then nv + 1 else nv)) h' ∧ l < 25 ∧ i < i' ∧ MaS n T m false F 2000 (c0 + C.length) i' [] h' ∧ C.length + i ≤ i' ∧ MlL (tup tl l) (lup CL l C) (c0 + C.length) h' ∧ FLr h h' := by
      intro s h4 x S4 L4 f4 his hx ex
      have rc := rc56_x (rc := F_X12_readsCircuit_b2 N fu) (x1 := x) B hN hl S4 (by omega) hc2 L4 tlf
      cases hE : spE (kdf n T) (spP false F (kdf n T) (vlf n T) 5) s with
      | inl e =>
        obtain ⟨k, j⟩ := e
        rw [hE] at rc
        show okI (F_X12_readsCircuit_b2 N (fu + 1) (nI nv) h) (fun v h' => v = 0 ∧ h'.1 103 10 = nI (k + 16 * tkb n T j) ∧ FLr h h')
        rw [ex]
        exact okI_m rc (fun v h' q => ⟨q.1, q.2.1, FLr_t f4 q.2.2⟩)
      | inr q =>
        obtain ⟨e, E, C⟩ := q
        rw [hE] at rc
        show match (if kdf n T e = 11 then .inr (l, e + 1, E, C) else .inl (1, e) : LNo) with
          | .inl (k, j) => okI (F_X12_readsCircuit_b2 N (fu + 1) (nI nv) h) (fun v h' => v = 0 ∧ h'.1 103 10 = nI (k + 16 * tkb n T j) ∧ FLr h h')
          | .inr (l, i', E, C) => ∃ h', F_X12_readsCircuit_b2 N (fu + 1) (nI nv) h = F_X12_readsCircuit_b2 N fu (nI (if kdf n T i = 17 then nv + 1 else nv)) h' ∧ l < 25 ∧ i < i' ∧ MaS n T m false F 2000 (c0 + C.length) i' [] h' ∧ C.length + i ≤ i' ∧ MlL (tup tl l) (lup CL l C) (c0 + C.length) h' ∧ FLr h h'
        have rc2 : if kdf n T e = 11 then ∃ h', F_X12_readsCircuit_b56 N (F_X12_readsCircuit_b2 N fu) x (nI l) h4 = F_X12_readsCircuit_b2 N fu x h' ∧ s < e ∧ e < m ∧ C.length + s ≤ e ∧ MaS n T m false F 2000 (c0 + C.length) (e + 1) [] h' ∧ MlL (tup tl l) (lup CL l C) (c0 + C.length) h' ∧ FLr h4 h' else okI (F_X12_readsCircuit_b56 N (F_X12_readsCircuit_b2 N fu) x (nI l) h4) (fun v h' => v = 0 ∧ h'.1 103 10 = nI (1 + 16 * tkb n T e) ∧ FLr h4 h') := rc
        by_cases g : kdf n T e = 11
        · rw [if_pos g] at rc2 ⊢
          obtain ⟨h', a1, a2, a3, a4, a5, a6, a7⟩ := rc2
          exact ⟨h', by rw [ex, a1, hx], hl, by omega, a5, by omega, a6, FLr_t f4 a7⟩
        · rw [if_neg g] at rc2 ⊢
          show okI (F_X12_readsCircuit_b2 N (fu + 1) (nI nv) h) (fun v h' => v = 0 ∧ h'.1 103 10 = nI (1 + 16 * tkb n T e) ∧ FLr h h')
          rw [ex]
          exact okI_m rc2 (fun v h' q => ⟨q.1, q.2.1, FLr_t f4 q.2.2⟩)
    show match (if kdf n T i ≠ 17 ∧ kdf n T (j + 1) ≠ 7 then .inl (1, j + 1) else match spE (kdf n T) (spP false F (kdf n T) (vlf n T) 5) (if kdf n T i = 17 then j + 1 else j + 2) with
      | .inl e => .inl e
      | .inr (e, E, C) => if kdf n T e = 11 then .inr (l, e + 1, E, C) else .inl (1, e) : LNo) with
      | .inl (k, j) => okI (F_X12_readsCircuit_b2 N (fu + 1) (nI nv) h) (fun v h' => v = 0 ∧ h'.1 103 10 = nI (k + 16 * tkb n T j) ∧ FLr h h')
      | .inr (l, i', E, C) => ∃ h', F_X12_readsCircuit_b2 N (fu + 1) (nI nv) h = F_X12_readsCircuit_b2 N fu (nI (if kdf n T i = 17 then nv + 1 else nv)) h' ∧ l < 25 ∧ i < i' ∧ MaS n T m false F 2000 (c0 + C.length) i' [] h' ∧ C.length + i ≤ i' ∧ MlL (tup tl l) (lup CL l C) (c0 + C.length) h' ∧ FLr h h'
    rcases hs2 with ⟨q1, q2, q3⟩ | ⟨q1, q2⟩
    · have es : (if kdf n T i = 17 then j + 1 else j + 2) = j + 1 := by rw [if_pos q1]
      rw [if_neg (fun z => z.1 q1), es]
      rw [if_pos ((l_le_n 19 (by omega) (by omega)).mpr (by omega)), ib_e, nI_1] at e0
      exact fin (j + 1) h3 (nI (nv + 1)) S3 L3 f23 (by omega) (by rw [if_pos q1]) e0
    · have es : (if kdf n T i = 17 then j + 1 else j + 2) = j + 2 := by rw [if_neg q1]
      rw [es]
      have s61 : F_X12_isSign 61 h3 = _ := mSign B S3 (c := 61) (by decide) (by omega)
      rw [show sgk 61 = 7 from by decide] at s61
      rw [if_neg (fun z => by have := (l_le_n 19 (by omega) (by omega)).mp z; omega), s61, bI_s] at e0
      by_cases g7 : kdf n T (j + 1) = 7
      · rw [if_neg (fun z => z.2 g7)]
        have jk2 : j + 1 < m := mEnd S3 (by omega)
        obtain ⟨h4, e4, S4, f4⟩ := mnext B hN S3 jk2
        rw [if_pos g7, if_neg (by decide), e4, bV_s] at e0
        exact fin (j + 2) h4 (nI nv) S4 (MlL_f L3 (MFr_n f4)) (FLr_t f23 (wk (MFr_n f4))) (by omega) (by rw [if_neg q1]) e0
      · rw [if_pos ⟨q1, g7⟩]
        rw [if_neg g7, if_pos rfl] at e0
        show okI (F_X12_readsCircuit_b2 N (fu + 1) (nI nv) h) (fun v h' => v = 0 ∧ h'.1 103 10 = nI (1 + 16 * tkb n T (j + 1)) ∧ FLr h h')
        rw [e0]
        unfold F_X12_readsCircuit_b40
        exact okI_m (mfail1 (k := 1) (N := N) S3 rfl) (fun v h' q => ⟨q.1, q.2.1, FLr_t f23 (wk q.2.2)⟩)
end
