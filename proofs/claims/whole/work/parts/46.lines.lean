/-! the lines of a CIRCUIT -/
abbrev HD : Type := (Nat × Nat) ⊕ (Nat × Nat)
def spH (tl : Nat → Bool) (nv : Nat) (kd vl : Nat → Nat) (i : Nat) : HD :=
  if kd i = 12 then (if kd (i + 1) = 3 then (if tl (vl (i + 1)) then .inl (3, i + 1) else .inr (vl (i + 1), i + 1)) else .inl (1, i + 1))
  else if kd i = 13 ∨ kd i = 14 ∨ kd i = 15 then (if tl (kd i - 5) then .inl (3, i) else .inr (kd i - 5, i))
  else if kd i = 16 then (if kd (i + 1) = 2 then (if vl (i + 1) < 8 then (if tl (11 + vl (i + 1)) then .inl (3, i + 1) else .inr (11 + vl (i + 1), i + 1)) else .inl (4, i + 1)) else .inl (1, i + 1))
  else if kd i = 17 then (if nv < 6 then .inr (19 + nv, i) else .inl (5, i))
  else .inl (1, i)
section
variable {n : Nat} {T : Nat → Nat} {m : Nat} {F : Nat}
theorem PaS_o {r : Bool} {i : Nat} {D : List Nat} {h h' : PH} (S : PaS n T m r F i D h) (e : ∀ k j, (k = 3 ∨ k = 6 ∨ k = 11 ∨ k = 12 ∨ k = 13 ∨ (k = 4 ∧ j = 6)) → h'.1 k j = h.1 k j) : PaS n T m r F i D h' := by
  obtain ⟨⟨⟨t1, t2, t3, t4⟩, r1, r2, r3, r4⟩, s1, s2, s3, s4, s5, s6, s7, s8⟩ := S
  refine ⟨⟨⟨t1, t2, t3, fun i hi => ?_⟩, r1, ?_, ?_, r4⟩, s1, ?_, ?_, ?_, ?_, ?_, s7, fun t ht => ?_⟩
  · rw [e 11 i (by omega), e 12 i (by omega), e 13 i (by omega)]; exact t4 i hi
  · rw [e 3 6 (by omega)]; exact r2
  · rw [e 3 7 (by omega)]; exact r3
  · rw [e 3 2 (by omega)]; exact s2
  · rw [e 3 3 (by omega)]; exact s3
  · rw [e 3 4 (by omega)]; exact s4
  · rw [e 3 5 (by omega)]; exact s5
  · rw [e 4 6 (by omega)]; exact s6
  · rw [e 6 t (by omega)]; exact s8 t ht
theorem PaF_o {r : Bool} {e0 : Nat} {h h' : PH} (S : PaF n T m r F e0 h) (e : ∀ k j, (k = 3 ∨ k = 6 ∨ k = 11 ∨ k = 12 ∨ k = 13 ∨ (k = 4 ∧ j = 6)) → h'.1 k j = h.1 k j) : PaF n T m r F e0 h' := by
  obtain ⟨⟨⟨t1, t2, t3, t4⟩, r1, r2, r3, r4⟩, s1, s2, s3, s, s4, s5⟩ := S
  refine ⟨⟨⟨t1, t2, t3, fun i hi => ?_⟩, r1, ?_, ?_, r4⟩, ?_, s2, s3, s, s4, ?_⟩
  · rw [e 11 i (by omega), e 12 i (by omega), e 13 i (by omega)]; exact t4 i hi
  · rw [e 3 6 (by omega)]; exact r2
  · rw [e 3 7 (by omega)]; exact r3
  · rw [e 3 5 (by omega)]; exact s1
  · rw [e 4 6 (by omega)]; exact s5
/-- lines told: their ops lie in the draft -/
def DrL (tl : Nat → Bool) (EL : Nat → List Nat) (nv : Nat) (D : List Nat) (h : PH) : Prop := h.1 4 1 = nI nv ∧ nv ≤ 6 ∧ (∀ l, l < 6 → (tl (19 + l) = true ↔ l < nv)) ∧ ∀ l, l < 25 → if tl l then ∃ b, EL l ≠ [] ∧ b + (EL l).length ≤ D.length ∧ h.1 7 l = nI b ∧ h.1 8 l = nI (b + (EL l).length) ∧ ∀ t, t < (EL l).length → D.getD (b + t) 0 = (EL l).getD t 0 else h.1 7 l = 0 ∧ h.1 8 l = 0
theorem DrL_o {tl : Nat → Bool} {EL : Nat → List Nat} {nv : Nat} {D : List Nat} {h h' : PH} (S : DrL tl EL nv D h) (e : ∀ k j, (k = 7 ∨ k = 8 ∨ (k = 4 ∧ j = 1)) → h'.1 k j = h.1 k j) : DrL tl EL nv D h' := by
  obtain ⟨a, b, c, d⟩ := S
  refine ⟨by rw [e 4 1 (by omega)]; exact a, b, c, fun l hl => ?_⟩
  rw [e 7 l (by omega), e 8 l (by omega)]
  exact d l hl
theorem DrL_f {tl : Nat → Bool} {EL : Nat → List Nat} {nv : Nat} {D : List Nat} {h h' : PH} (S : DrL tl EL nv D h) (f : fq [6] K5 h h') : DrL tl EL nv D h' := DrL_o S (fun k j q => f k j (by rcases q with rfl | rfl | ⟨rfl, rfl⟩ <;> decide) (by rcases q with rfl | rfl | ⟨rfl, rfl⟩ <;> simp [K5]))
theorem DrL_app {tl : Nat → Bool} {EL : Nat → List Nat} {nv : Nat} {D E : List Nat} {h : PH} (S : DrL tl EL nv D h) : DrL tl EL nv (D ++ E) h := by
  obtain ⟨a, b, c, d⟩ := S
  refine ⟨a, b, c, fun l hl => ?_⟩
  have := d l hl
  by_cases g : tl l = true
  · rw [if_pos g] at this ⊢
    obtain ⟨b, h0, h1, h2, h3, h4⟩ := this
    refine ⟨b, h0, by simp; omega, h2, h3, fun t ht => ?_⟩
    rw [← h4 t ht, List.getD_eq_getElem?_getD, List.getD_eq_getElem?_getD, List.getElem?_append_left (by omega)]
  · rw [if_neg g] at this ⊢
    exact this
theorem once_x {i l : Nat} {D : List Nat} {h : PH} {tl : Nat → Bool} {EL : Nat → List Nat} {nv : Nat} (S : PaS n T m false F i D h) (L : DrL tl EL nv D h) (hD : D.length ≤ i) (hl : l < 25) : okI (F_X5_once (nI l) h) (fun v h' => (if tl l then PaF n T m false F (3 + 16 * tkb n T i) h' else v = nI l ∧ PaS n T m false F i D h') ∧ fq [6] K5 h h') := by
  have jm : m ≤ 1000 := Nat.le_trans S.1.1.1 S.1.2.1
  have im : i ≤ m := S.2.1
  have ll := L.2.2.2 l hl
  unfold F_X5_once F_X2_isTold
  rw [if_pos (nI_in0 hl (by omega)), nI_clamp (by omega)]
  by_cases g : tl l = true
  · rw [if_pos g] at ll
    obtain ⟨b, h0, h1, h2, h3, h4⟩ := ll
    have : 0 < (EL l).length := List.length_pos_iff.mpr h0
    rw [show 4 + 4 = 8 from rfl, show 4 + 3 = 7 from rfl, h2, h3, if_neg (nI_ge (by omega) (by omega)), bI_s, if_neg (by decide)]
    unfold F_X5_refused
    obtain ⟨h3, e3, S3, f3⟩ := blame_x (k := 3) S (by omega) (by omega) (by omega)
    rw [show F_X5_blame 3 h = _ from e3]
    refine okI_s ⟨?_, f3⟩
    rw [if_pos g]
    exact S3
  · rw [if_neg g] at ll
    rw [show 4 + 4 = 8 from rfl, show 4 + 3 = 7 from rfl, ll.1, ll.2, if_pos (by decide), bI_s, if_pos rfl]
    refine okI_s ⟨?_, fq_0⟩
    rw [if_neg g]
    exact ⟨rfl, S⟩
theorem lineTold_x {i : Nat} {D : List Nat} {h : PH} {tl : Nat → Bool} {EL : Nat → List Nat} {nv : Nat} (S : PaS n T m false F i D h) (L : DrL tl EL nv D h) (hD : D.length ≤ i) (hi : i < m) : okI (F_X5_lineTold h) (fun v h' => (match spH tl nv (kdf n T) (vlf n T) i with
    | .inl (k, j) => PaF n T m false F (k + 16 * tkb n T j) h'
    | .inr (l, j) => v = nI l ∧ l < 25 ∧ i ≤ j ∧ PaS n T m false F j D h' ∧ h'.1 4 1 = nI (if kdf n T i = 17 then nv + 1 else nv)) ∧ fq [6] ((4, 1) :: K5) h h') := by
  have jm : m ≤ 1000 := Nat.le_trans S.1.1.1 S.1.2.1
  have kl : kdf n T i < 35 := kd_le n T (tkb n T i)
  have kl1 : kdf n T (i + 1) < 35 := kd_le n T (tkb n T (i + 1))
  have k2 := kd2 n T (tkb n T (i + 1))
  have hk : h.1 3 3 = nI (kdf n T i) := S.2.2.2.1
  have nvb : nv ≤ 6 := L.2.1
  have n41 : h.1 4 1 = nI nv := L.1
  have wk : ∀ {a b : PH}, fq [6] K5 a b → fq [6] ((4, 1) :: K5) a b := fun f => fq_w f (fun _ q => q) (fun q z => Or.inl (List.mem_cons_of_mem _ z))
  unfold F_X5_lineTold spH
  rw [hk, ib_e]
  by_cases g12 : kdf n T i = 12
  · rw [if_pos ((n_eq_l 12 (by omega) (by omega)).mpr g12), if_pos g12]
    obtain ⟨h2, e2, S2, f2⟩ := adv_x S hi
    have hk2 : h2.1 3 3 = nI (kdf n T (i + 1)) := S2.2.2.2.1
    have hv2 : h2.1 3 4 = nI (vlf n T (i + 1)) := S2.2.2.2.2.1
    rw [e2, bV_s, hk2]
    by_cases g3 : kdf n T (i + 1) = 3
    · have v8 : vlf n T (i + 1) < 8 := k2.2 g3
      rw [if_pos ((n_eq_l 3 (by omega) (by omega)).mpr g3), if_pos g3, hv2]
      obtain ⟨v, h3, e3, q3, f3⟩ := once_x S2 (DrL_f L f2) (by omega) (show vlf n T (i + 1) < 25 by omega)
      rw [e3, bI_s]
      refine okI_s ⟨?_, wk (fq_t f2 f3)⟩
      by_cases q : tl (vlf n T (i + 1)) = true
      · rw [if_pos q] at q3 ⊢; exact q3
      · rw [if_neg q] at q3 ⊢
        exact ⟨q3.1, by omega, by omega, q3.2, by rw [if_neg (by omega), f3 4 1 (by decide) (by decide), f2 4 1 (by decide) (by decide)]; exact n41⟩
    · rw [if_neg (fun z => g3 ((n_eq_l 3 (by omega) (by omega)).mp z)), if_neg g3]
      unfold F_X5_refused
      obtain ⟨h3, e3, S3, f3⟩ := blame_x (k := 1) S2 (by omega) (by omega) (by omega)
      rw [show F_X5_blame 1 h2 = _ from e3]
      exact okI_s ⟨S3, wk (fq_t f2 f3)⟩
  · rw [if_neg (fun z => g12 ((n_eq_l 12 (by omega) (by omega)).mp z)), if_neg g12]
    have three : (kdf n T i = 13 ∨ kdf n T i = 14 ∨ kdf n T i = 15) → okI (F_X5_lineTold_b73 (nI (kdf n T i)) h) (fun v h' => (match (if tl (kdf n T i - 5) then .inl (3, i) else .inr (kdf n T i - 5, i) : HD) with
        | .inl (k, j) => PaF n T m false F (k + 16 * tkb n T j) h'
        | .inr (l, j) => v = nI l ∧ l < 25 ∧ i ≤ j ∧ PaS n T m false F j D h' ∧ h'.1 4 1 = nI (if kdf n T i = 17 then nv + 1 else nv)) ∧ fq [6] ((4, 1) :: K5) h h') := fun q => by
      unfold F_X5_lineTold_b73
      rw [show (8 : Int32) = nI 8 from rfl, nI_add, show (13 : Int32) = nI 13 from rfl, pk_sub (by omega), show 8 + kdf n T i - 13 = kdf n T i - 5 by omega]
      obtain ⟨v, h3, e3, q3, f3⟩ := once_x S L hD (show kdf n T i - 5 < 25 by omega)
      rw [e3, bI_s]
      refine okI_s ⟨?_, wk f3⟩
      by_cases q : tl (kdf n T i - 5) = true
      · rw [if_pos q] at q3 ⊢; exact q3
      · rw [if_neg q] at q3 ⊢
        exact ⟨q3.1, by omega, by omega, q3.2, by rw [if_neg (by omega), f3 4 1 (by decide) (by decide)]; exact n41⟩
    by_cases g13 : kdf n T i = 13
    · rw [if_pos ((n_eq_l 13 (by omega) (by omega)).mpr g13), if_pos (Or.inl g13)]
      exact three (Or.inl g13)
    · rw [if_neg (fun z => g13 ((n_eq_l 13 (by omega) (by omega)).mp z))]
      by_cases g14 : kdf n T i = 14
      · rw [if_pos ((n_eq_l 14 (by omega) (by omega)).mpr g14), if_pos (Or.inr (Or.inl g14))]
        exact three (Or.inr (Or.inl g14))
      · rw [if_neg (fun z => g14 ((n_eq_l 14 (by omega) (by omega)).mp z))]
        by_cases g15 : kdf n T i = 15
        · rw [if_pos ((n_eq_l 15 (by omega) (by omega)).mpr g15), if_pos (Or.inr (Or.inr g15))]
          exact three (Or.inr (Or.inr g15))
        · rw [if_neg (fun z => g15 ((n_eq_l 15 (by omega) (by omega)).mp z)), if_neg (show ¬ (kdf n T i = 13 ∨ kdf n T i = 14 ∨ kdf n T i = 15) by omega)]
          by_cases g16 : kdf n T i = 16
          · rw [if_pos ((n_eq_l 16 (by omega) (by omega)).mpr g16), if_pos g16]
            obtain ⟨h2, e2, S2, f2⟩ := adv_x S hi
            have hk2 : h2.1 3 3 = nI (kdf n T (i + 1)) := S2.2.2.2.1
            have hv2 : h2.1 3 4 = nI (vlf n T (i + 1)) := S2.2.2.2.2.1
            rw [e2, bV_s, hk2, hv2]
            by_cases g3 : kdf n T (i + 1) = 2
            · have v8 : vlf n T (i + 1) < 10000 := k2.1 g3
              rw [if_pos ((n_eq_l 2 (by omega) (by omega)).mpr g3), if_pos g3]
              by_cases g8 : vlf n T (i + 1) < 8
              · rw [if_neg (fun z => by have := (l_le_n 8 (by omega) (by omega)).mp z; omega), if_pos g8, show (11 : Int32) = nI 11 from rfl, nI_add]
                obtain ⟨v, h3, e3, q3, f3⟩ := once_x S2 (DrL_f L f2) (by omega) (show 11 + vlf n T (i + 1) < 25 by omega)
                rw [e3, bI_s]
                refine okI_s ⟨?_, wk (fq_t f2 f3)⟩
                by_cases q : tl (11 + vlf n T (i + 1)) = true
                · rw [if_pos q] at q3 ⊢; exact q3
                · rw [if_neg q] at q3 ⊢
                  exact ⟨q3.1, by omega, by omega, q3.2, by rw [if_neg (by omega), f3 4 1 (by decide) (by decide), f2 4 1 (by decide) (by decide)]; exact n41⟩
              · rw [if_pos ((l_le_n 8 (by omega) (by omega)).mpr (by omega)), if_neg g8]
                unfold F_X5_refused
                obtain ⟨h3, e3, S3, f3⟩ := blame_x (k := 4) S2 (by omega) (by omega) (by omega)
                rw [show F_X5_blame 4 h2 = _ from e3]
                exact okI_s ⟨S3, wk (fq_t f2 f3)⟩
            · rw [if_neg (fun z => g3 ((n_eq_l 2 (by omega) (by omega)).mp z)), if_neg g3]
              unfold F_X5_refused
              obtain ⟨h3, e3, S3, f3⟩ := blame_x (k := 1) S2 (by omega) (by omega) (by omega)
              rw [show F_X5_blame 1 h2 = _ from e3]
              exact okI_s ⟨S3, wk (fq_t f2 f3)⟩
          · rw [if_neg (fun z => g16 ((n_eq_l 16 (by omega) (by omega)).mp z)), if_neg g16]
            by_cases g17 : kdf n T i = 17
            · rw [if_pos ((n_eq_l 17 (by omega) (by omega)).mpr g17), if_pos g17, n41]
              by_cases g6 : nv < 6
              · rw [if_pos ((n_lt_l 6 (by omega) (by omega)).mpr g6), if_pos g6, hb_e, nI_1]
                have e41 : (hs h 4 1 (nI (nv + 1))).1 4 1 = nI (nv + 1) := by simp [hs_1]
                rw [e41, show (19 : Int32) = nI 19 from rfl, nI_add, nI_m1 (by omega)]
                refine okI_s ⟨⟨by congr 1, by omega, by omega, PaS_o S (fun k j q => ?_), by rw [if_pos g17]; exact e41⟩, fq_s fq_0 (Or.inr (by decide))⟩
                rw [hs_1]
                by_cases z : k = 4
                · rw [if_pos z, if_neg (by omega)]
                · rw [if_neg z]
              · rw [if_neg (fun z => g6 ((n_lt_l 6 (by omega) (by omega)).mp z)), if_neg g6]
                unfold F_X5_refused
                obtain ⟨h3, e3, S3, f3⟩ := blame_x (k := 5) S (by omega) (by omega) (by omega)
                rw [show F_X5_blame 5 h = _ from e3]
                exact okI_s ⟨S3, wk f3⟩
            · rw [if_neg (fun z => g17 ((n_eq_l 17 (by omega) (by omega)).mp z)), if_neg g17]
              unfold F_X5_refused
              obtain ⟨h3, e3, S3, f3⟩ := blame_x (k := 1) S (by omega) (by omega) (by omega)
              rw [show F_X5_blame 1 h = _ from e3]
              exact okI_s ⟨S3, wk f3⟩
end
