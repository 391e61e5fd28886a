/-! the reference's PART -/
section
variable {n : Nat} {T : Nat → Nat} {m : Nat} {r : Bool} {F B0 c0 : Nat}
theorem mOne {N d i f c fu : Nat} (B : TB (n, T)) (hN : 2000 ≤ N) {C0 : List Nat} {h : PH} (S : MaS n T m r F B0 c0 i C0 h) (hC : c0 + C0.length ≤ B0 + i) (hi : i < m) (hd : d < 5) (e0 : F_X12_reads_b11 N (fu + 1) (nI d) 1 h = bI (F_X12_readsFact N (nI f) h) fun r4 h5 => if r4 = 0 then some (0, h5) else F_X12_reads_b143 N (F_X12_reads_b11 N fu) N (nI d) 0 h5) (hf : f < 11) (hc : (f = 0 ∧ h.1 103 9 = nI (c - 100) ∧ 100 ≤ c) ∨ (0 < f ∧ c = f)) : MGo n T m r F B0 c0 N i d (popN (h.1 112) d) (fu + 1) C0 h (i + 1) [c] (fun h' => h'.1 113 d = h.1 113 d) := by
  obtain ⟨v, h1, e1, rfl, S1, f1, o1, c1⟩ := readsFact_1 (N := N) S hC hi hf hc
  rw [e1, bI_s, if_neg (by decide)] at e0
  exact mLeaf B hN (x := 0) e0 (Nat.le_refl _) S1 f1 o1 c1 hi (by omega)
theorem mTwo {N d i f c fu : Nat} (B : TB (n, T)) (hN : 2000 ≤ N) {C0 : List Nat} {h : PH} (S : MaS n T m r F B0 c0 i C0 h) (hC : c0 + C0.length ≤ B0 + i) (hi : i < m) (hd : d < 5) (e0 : F_X12_reads_b11 N (fu + 1) (nI d) 1 h = bI (F_X12_readsFact N (nI f) h) fun r4 h5 => if r4 = 0 then some (0, h5) else F_X12_reads_b143 N (F_X12_reads_b11 N fu) N (nI d) 0 h5) (hf : (f = 11 ∧ c = 40) ∨ (f = 12 ∧ c = 50)) (E : List Nat) : match (if kdf n T (i + 1) = 2 then (if vlf n T (i + 1) < F then .inr (i + 2, E, [c + vlf n T (i + 1)]) else .inl (4, i + 1)) else .inl (1, i + 1) : PO) with
  | .inl (k, j) => MFa n T c0 k j h (F_X12_reads_b11 N (fu + 1) (nI d) 1 h)
  | .inr (j, _, C) => MGo n T m r F B0 c0 N i d (popN (h.1 112) d) (fu + 1) C0 h j C (fun h' => h'.1 113 d = h.1 113 d) := by
  obtain ⟨v, h1, e1, q⟩ := readsFact_2 (N := N) B hN S hC hi hf
  rw [e1, bI_s] at e0
  by_cases g : kdf n T (i + 1) = 2
  · rw [if_pos g] at q ⊢
    by_cases g2 : vlf n T (i + 1) < F
    · rw [if_pos g2] at q ⊢
      obtain ⟨rfl, him, S1, f1, o1, c1⟩ := q
      rw [if_neg (by decide)] at e0
      exact mLeaf B hN (x := 0) e0 (by omega) S1 f1 o1 c1 him (by omega)
    · rw [if_neg g2] at q ⊢
      obtain ⟨rfl, q1, q2⟩ := q
      rw [if_pos rfl] at e0
      show MFa n T c0 4 (i + 1) h (F_X12_reads_b11 N (fu + 1) (nI d) 1 h)
      rw [e0]
      exact okI_s ⟨rfl, q1, q2⟩
  · rw [if_neg g] at q ⊢
    obtain ⟨rfl, q1, q2⟩ := q
    rw [if_pos rfl] at e0
    show MFa n T c0 1 (i + 1) h (F_X12_reads_b11 N (fu + 1) (nI d) 1 h)
    rw [e0]
    exact okI_s ⟨rfl, q1, q2⟩
theorem mPart {N d q : Nat} (B : TB (n, T)) (hN : 2000 ≤ N) (hq : q + d = 4) (HP : MPt n T m r F B0 c0 N (d + 1) (spP r F (kdf n T) (vlf n T) q)) (HE : MEx n T m r F B0 c0 N (d + 1) 0 (spE (kdf n T) (spP r F (kdf n T) (vlf n T) q))) : MPt n T m r F B0 c0 N d (spP r F (kdf n T) (vlf n T) (q + 1)) := by
  intro i C0 h fu S hC hfu
  obtain ⟨f, rfl⟩ : ∃ f, fu = f + 1 := ⟨fu - 1, by have := S.2.1; omega⟩
  have w := b11_want (N := N) (fu := f) (d := d) B S
  have kl : kdf n T i < 35 := kd_le n T (tkb n T i)
  have k3 : kdf n T i = 3 → vlf n T i < 8 := (kd2 n T (tkb n T i)).2
  have kn := kd_num B S.1 (tkb_le i).2
  unfold spP
  cases hb : begs r (kdf n T i) with
  | false =>
    rw [hb, if_neg (show ¬ false = true by decide)] at w
    rw [if_neg (show ¬ false = true by decide)]
    exact MFa_e w (mfail1 (k := 1) (N := N) S rfl)
  | true =>
    have bg := of_decide_eq_true hb
    have hi : i < m := mEnd S (by
      intro z
      rw [z] at bg
      split at bg <;> omega)
    rw [hb, if_pos (show true = true from rfl)] at w
    rw [if_pos (show true = true from rfl)]
    unfold F_X12_reads_b65 at w
    rw [if_neg (fun z => by have := (n_eq_l 5 (by omega) (by omega)).mp z; omega)] at w
    unfold F_X12_reads_b86 at w
    by_cases g1 : kdf n T i = 18
    · rw [if_pos g1, if_neg (by decide), if_neg (by decide)] at w
      rw [if_pos g1]
      obtain ⟨h1, e1, S1, o1, cm1, o2, c2, f1⟩ := b99_x (N := N) (fu := f) (c := 30) (o := 1) (x4 := 1) B hN S hC hi (by omega : d < 5) (by decide)
      rw [show F_X12_reads_b99 N (F_X12_reads_b11 N f) (nI d) 1 1 30 h = _ from e1] at w
      have sb := HP (i + 1) (C0 ++ [30]) h1 f S1 (by simp; omega) (by omega)
      cases hsub : spP r F (kdf n T) (vlf n T) q (i + 1) with
      | inl e =>
        obtain ⟨k, j⟩ := e
        rw [hsub] at sb
        show MFa n T c0 k j h (F_X12_reads_b11 N (f + 1) (nI d) 1 h)
        rw [w]
        exact okI_m sb (fun v h' q => ⟨q.1, q.2.1, MFr_t f1 q.2.2⟩)
      | inr z =>
        obtain ⟨j, E, C⟩ := z
        rw [hsub] at sb
        obtain ⟨h2, fu2, a1, a2, a3, a4, a5, a6, a7, a8, a9⟩ := sb
        have pp : popN (h1.1 112) (d + 1) = popN (h.1 112) d := by
          rw [popN, if_pos (by rw [o1]; rfl), popN_c d (fun e he => o2 e he)]
        rw [pp] at a1
        refine ⟨h2, fu2, by rw [w, a1], by omega, by omega, by simp; omega, ?_, fun e he => by rw [a6 e (by omega), o2 e he], fun e he => by rw [a7 e (by omega), c2 e (by omega)], ?_, MFr_t f1 a9⟩
        · rw [List.append_assoc] at a5
          exact a5
        · show h2.1 113 d = h.1 113 d
          rw [a7 d (by omega), c2 d (by omega)]
    · rw [if_neg g1, if_pos rfl] at w
      rw [if_neg g1]
      by_cases g2 : kdf n T i = 4
      · rw [if_pos g2, if_neg (by decide), if_pos rfl] at w
        rw [if_pos g2]
        obtain ⟨h1, e1, S1, o1, cm1, o2, c2, f1⟩ := b99_x (N := N) (fu := f) (c := 28) (o := 2) (x4 := 0) B hN S hC hi (by omega : d < 5) (by decide)
        rw [show F_X12_reads_b99 N (F_X12_reads_b11 N f) (nI d) 1 0 28 h = _ from e1] at w
        have sb := HE (i + 1) (C0 ++ [28]) h1 f S1 (by simp; omega) (by omega) (by rw [popN, if_neg (by rw [o1]; decide)]) (fun _ => cm1)
        cases hsub : spE (kdf n T) (spP r F (kdf n T) (vlf n T) q) (i + 1) with
        | inl e =>
          obtain ⟨k, j⟩ := e
          rw [hsub] at sb
          show MFa n T c0 k j h (F_X12_reads_b11 N (f + 1) (nI d) 1 h)
          rw [w]
          exact okI_m sb (fun v h' q => ⟨q.1, q.2.1, MFr_t f1 q.2.2⟩)
        | inr z =>
          obtain ⟨j, E, C⟩ := z
          rw [hsub] at sb
          obtain ⟨h2, fu2, a1, a2, a3, a4, a5, a6, a7, ⟨a8, a8b⟩, a9⟩ := sb
          obtain ⟨f2, rfl⟩ : ∃ f2, fu2 = f2 + 1 := ⟨fu2 - 1, by have := a5.2.1; omega⟩
          have en := b11_end (N := N) (fu := f2) B a5 (by omega) a8b
          show match (if kdf n T j = 5 then (.inr (j + 1, E, 28 :: (C ++ [29])) : PO) else .inl (1, j)) with
            | .inl (k, j) => MFa n T c0 k j h (F_X12_reads_b11 N (f + 1) (nI d) 1 h)
            | .inr (j, _, C) => MGo n T m r F B0 c0 N i d (popN (h.1 112) d) (f + 1) C0 h j C (fun h' => h'.1 113 d = h.1 113 d)
          by_cases g5 : kdf n T j = 5
          · rw [if_pos g5]
            rw [if_pos ⟨g5, by omega⟩, Nat.add_sub_cancel] at en
            have hj : j < m := mEnd a5 (by omega)
            obtain ⟨h3, e3, S3, f3, o3, c3⟩ := mputs (c := 29) a5 (by simp; omega) hj
            rw [show F_X12_puts 29 h2 = _ from e3, bV_s, pop370 d N (by omega) (by omega)] at en
            unfold F_X12_reads_b432 at en
            obtain ⟨h4, e4, S4, f4⟩ := mnext B hN S3 hj
            rw [e4, bV_s] at en
            have pp : popN (h3.1 112) d = popN (h.1 112) d := popN_c d (fun e he => by rw [o3, a6 e (by omega), o2 e he])
            rw [pp] at en
            refine ⟨h4, f2, by rw [w, a1, en], by omega, by omega, by simp; omega, ?_, fun e he => by rw [f4.1 112 _ (by simp) (by simp), o3, a6 e (by omega), o2 e he], fun e he => by rw [f4.1 113 _ (by simp) (by simp), c3, a7 e (by omega), c2 e (by omega)], ?_, MFr_t f1 (MFr_t a9 (MFr_t f3 (MFr_n f4)))⟩
            · simp at S4 ⊢
              exact S4
            · show h4.1 113 d = h.1 113 d
              rw [f4.1 113 _ (by simp) (by simp), c3, a7 d (by omega), c2 d (by omega)]
          · rw [if_neg g5]
            rw [if_neg (fun z => g5 z.1)] at en
            unfold F_X12_reads_b390 F_X12_reads_b426 at en
            rw [if_neg (fun z => by have := (n_eq_l 0 (by omega) (by omega)).mp z; omega)] at en
            show MFa n T c0 1 j h (F_X12_reads_b11 N (f + 1) (nI d) 1 h)
            rw [w, a1, en]
            exact okI_m (mfail1 (k := 1) (N := N) a5 rfl) (fun v h' q => ⟨q.1, q.2.1, MFr_t f1 (MFr_t a9 q.2.2)⟩)
      · rw [if_neg g2, if_pos rfl] at w
        rw [if_neg g2]
        by_cases g3 : kdf n T i = 2
        · rw [if_pos g3]
          have f0 : fMk r (kdf n T i) (vlf n T i) = 0 := by
            unfold fMk
            rw [g3]
            cases r <;> rfl
          rw [f0] at w
          have hv := kn.2.2.2.1 g3
          have hv1 : h.1 103 9 = nI (vlf n T i) := hv.1
          exact mOne (f := 0) (c := 100 + vlf n T i) B hN S hC hi (by omega) w (by omega) (Or.inl ⟨rfl, by rw [hv1]; congr 1; omega, by omega⟩)
        · rw [if_neg g3]
          unfold spF
          cases r with
          | true =>
            have b2 : 25 ≤ kdf n T i ∧ kdf n T i ≤ 34 := by
              rcases bg with z | z | z | z
              · exact absurd z g3
              · exact absurd z g1
              · exact absurd z g2
              · exact z
            rw [if_neg (by omega), if_neg (by omega), if_neg (by omega), if_neg (by omega), if_neg (by omega)]
            have f0 : fMk true (kdf n T i) (vlf n T i) = kdf n T i - 24 := by
              unfold fMk
              rw [if_pos rfl, if_pos b2]
            rw [f0] at w
            exact mOne (f := kdf n T i - 24) (c := kdf n T i - 24) B hN S hC hi (by omega) w (by omega) (Or.inr ⟨by omega, rfl⟩)
          | false =>
            have b2 : kdf n T i = 3 ∨ (21 ≤ kdf n T i ∧ kdf n T i ≤ 24) := by
              rcases bg with z | z | z | z
              · exact absurd z g3
              · exact absurd z g1
              · exact absurd z g2
              · exact z
            unfold fMk at w
            rw [if_neg (show ¬ false = true by decide)] at w
            by_cases q3 : kdf n T i = 3
            · rw [if_pos q3] at w ⊢
              have := k3 q3
              exact mOne (f := 1 + vlf n T i) (c := 1 + vlf n T i) B hN S hC hi (by omega) w (by omega) (Or.inr ⟨by omega, rfl⟩)
            · rw [if_neg q3] at w ⊢
              by_cases q21 : kdf n T i = 21
              · rw [if_neg (by omega), if_neg (by omega), if_pos q21] at w
                rw [if_pos q21]
                exact mTwo (f := 11) (c := 40) B hN S hC hi (by omega) w (Or.inl ⟨rfl, rfl⟩) _
              · rw [if_neg q21]
                by_cases q22 : kdf n T i = 22
                · rw [if_neg (by omega), if_neg (by omega), if_neg (by omega), if_pos q22] at w
                  rw [if_pos q22]
                  exact mTwo (f := 12) (c := 50) B hN S hC hi (by omega) w (Or.inr ⟨rfl, rfl⟩) _
                · rw [if_neg q22]
                  by_cases q23 : kdf n T i = 23
                  · rw [if_pos q23] at w ⊢
                    exact mOne (f := 9) (c := 9) B hN S hC hi (by omega) w (by omega) (Or.inr ⟨by omega, rfl⟩)
                  · have q24 : kdf n T i = 24 := by omega
                    rw [if_neg q23, if_pos q24] at w
                    rw [if_neg q23, if_pos q24]
                    exact mOne (f := 10) (c := 10) B hN S hC hi (by omega) w (by omega) (Or.inr ⟨by omega, rfl⟩)
theorem mParts {N : Nat} (B : TB (n, T)) (hN : 2000 ≤ N) : ∀ q d, q + d = 5 → MPt n T m r F B0 c0 N d (spP r F (kdf n T) (vlf n T) q) := by
  intro q
  induction q with
  | zero =>
    intro d hd
    have : d = 5 := by omega
    subst this
    exact mPart0 B
  | succ q ih =>
    intro d hd
    exact mPart B hN (by omega) (ih (d + 1) (by omega)) (mExpr B hN (by omega) (ih (d + 1) (by omega)))
/-- reads(): the whole E, then ; (or the end of a RULE) -/
theorem reads_x {N i : Nat} (B : TB (n, T)) (hN : 2000 ≤ N) {h : PH} (S : MaS n T m r F B0 c0 i [] h) (hC : c0 ≤ B0 + i) : match spE (kdf n T) (spP r F (kdf n T) (vlf n T) 5) i with
  | .inl (k, j) => MFa n T c0 k j h (F_X12_reads N h)
  | .inr (j, _, C) => if (if r then kdf n T j = 0 else kdf n T j = 11) then okI (F_X12_reads N h) (fun v h' => v = 1 ∧ i < j ∧ C.length + i ≤ j ∧ (if r then True else j < m ∧ MaS n T m r F B0 c0 (j + 1) C h') ∧ h'.1 103 18 = nI (c0 + C.length) ∧ (∀ t, t < C.length → h'.1 111 (c0 + t) = nI (C.getD t 0)) ∧ MFr c0 h h') else MFa n T c0 1 j h (F_X12_reads N h) := by
  have me := mExpr B hN (by omega : 0 < 7) (mParts (r := r) (F := F) (B0 := B0) (c0 := c0) (m := m) B hN 5 0 (by omega))
  have m1 : m ≤ 1000 := Nat.le_trans S.2.2.2.2.2.2.2.2.2.2.1 S.2.2.2.2.2.2.2.2.1
  have sb := me i [] (hs h 113 0 0) N (MaS_3 S) (by simpa using hC) (by omega) rfl (fun _ => by simp [hs_1])
  have e0 : F_X12_reads N h = F_X12_reads_b11 N N (nI 0) 1 (hs h 113 0 0) := by
    unfold F_X12_reads
    rw [if_pos (by decide), hb_e, show vp_nar .boolean (0 : Int32) = 0 from by decide]
    rfl
  cases hsub : spE (kdf n T) (spP r F (kdf n T) (vlf n T) 5) i with
  | inl e =>
    obtain ⟨k, j⟩ := e
    rw [hsub] at sb
    show MFa n T c0 k j h (F_X12_reads N h)
    rw [e0]
    exact okI_m sb (fun v h' q => ⟨q.1, q.2.1, MFr_t MFr_3 q.2.2⟩)
  | inr z =>
    obtain ⟨j, E, C⟩ := z
    rw [hsub] at sb
    obtain ⟨h2, fu2, a1, a2, a3, a4, a5, a6, a7, ⟨a8, a8b⟩, a9⟩ := sb
    rw [List.nil_append] at a5
    obtain ⟨f2, rfl⟩ : ∃ f2, fu2 = f2 + 1 := ⟨fu2 - 1, by have := a5.2.1; omega⟩
    have en := b11_end (N := N) (fu := f2) B a5 (by omega) a8b
    rw [if_neg (by omega)] at en
    unfold F_X12_reads_b390 F_X12_reads_b426 F_X12_reads_b420 at en
    rw [if_pos (show nI 0 = 0 from rfl), a5.2.2.2.1] at en
    have kn := kd_num B a5.1 (tkb_le j).2
    have kk : (h2.1 103 7 = 0 ↔ kdf n T j = 0) := kn.2.1
    have fin : ∀ fr : h2.1 103 18 = h2.1 103 18, MFa n T c0 1 j h (bI (F_X12_fails 1 h2) fun r1 h2 => if zb r1 = true then some (r1, h2) else none) := fun _ => okI_m (mfail1 (k := 1) (N := N) a5 rfl) (fun v h' q => ⟨q.1, q.2.1, MFr_t MFr_3 (MFr_t a9 q.2.2)⟩)
    cases r with
    | true =>
      rw [if_pos rfl, if_neg (by decide)] at en
      simp only [if_true]
      by_cases g : kdf n T j = 0
      · rw [if_pos g]
        rw [if_pos (kk.mpr g)] at en
        obtain ⟨h', e3, A3, f3⟩ := next_i B hN a5.1
        refine ⟨1, h', by rw [e0, a1, en, e3]; rfl, rfl, a2, a4, trivial, ?_, fun t ht => ?_, MFr_t MFr_3 (MFr_t a9 (MFr_n f3))⟩
        · rw [f3.1 103 18 (by simp) (by decide)]; exact a5.2.2.2.2.1
        · rw [f3.1 111 _ (by simp) (by simp)]; exact a5.2.2.2.2.2.1 t ht
      · rw [if_neg g]
        rw [if_neg (fun z => g (kk.mp z))] at en
        rw [e0, a1, en]
        exact fin rfl
    | false =>
      rw [if_neg (show ¬ false = true by decide), if_pos rfl] at en
      simp only [Bool.false_eq_true, if_false]
      have s59 : F_X12_isSign 59 h2 = _ := mSign B a5 (c := 59) (by decide) (by omega)
      rw [show sgk 59 = 11 from by decide] at s59
      rw [s59, bI_s] at en
      by_cases g : kdf n T j = 11
      · rw [if_pos g]
        rw [if_pos g, if_neg (by decide)] at en
        have hj : j < m := mEnd a5 (by omega)
        obtain ⟨h', e3, S3, f3⟩ := mnext B hN a5 hj
        refine ⟨1, h', by rw [e0, a1, en, e3]; rfl, rfl, a2, a4, ⟨hj, S3⟩, ?_, fun t ht => ?_, MFr_t MFr_3 (MFr_t a9 (MFr_n f3))⟩
        · exact S3.2.2.2.2.1
        · exact S3.2.2.2.2.2.1 t ht
      · rw [if_neg g]
        rw [if_neg g, if_pos rfl] at en
        rw [e0, a1, en]
        exact fin rfl
end
