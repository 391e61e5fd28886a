/-! a line, and all lines: the class -/
abbrev LNo : Type := (Nat × Nat) ⊕ (Nat × Nat × List Nat × List Nat)
def spLn (F : Nat) (tl : Nat → Bool) (nv : Nat) (kd vl : Nat → Nat) (i : Nat) : LNo := match spH tl nv kd vl i with
  | .inl e => .inl e
  | .inr (l, j) => if kd i ≠ 17 ∧ kd (j + 1) ≠ 7 then .inl (1, j + 1) else match spE kd (spP false F kd vl 5) (if kd i = 17 then j + 1 else j + 2) with
    | .inl e => .inl e
    | .inr (e, E, C) => if kd e = 11 then .inr (l, e + 1, E, C) else .inl (1, e)
def tup (tl : Nat → Bool) (l : Nat) : Nat → Bool := fun x => if x = l then true else tl x
def lup (EL : Nat → List Nat) (l : Nat) (E : List Nat) : Nat → List Nat := fun x => if x = l then E else EL x
def KC : List (Nat × Nat) := (4, 1) :: K5
theorem KC_w {a b : PH} (f : fq [6] K5 a b) : fq [6, 7, 8] KC a b := fq_w f (by simp) (fun q z => Or.inl (List.mem_cons_of_mem _ z))
theorem KC_v {a b : PH} (f : fq [6] ((4, 1) :: K5) a b) : fq [6, 7, 8] KC a b := fq_w f (by simp) (fun q z => Or.inl z)
theorem spH_le {tl : Nat → Bool} {nv : Nat} {kd vl : Nat → Nat} {i l j : Nat} (h : spH tl nv kd vl i = .inr (l, j)) : tl l = false ∨ (kd i = 17 ∧ l = 19 + nv) := by
  unfold spH at h
  repeat' split at h
  all_goals first | (cases h; rename_i z; exact Or.inl (by simpa using z)) | (cases h; exact Or.inr ⟨by assumption, rfl⟩) | (cases h)
theorem spH_n {tl : Nat → Bool} {nv : Nat} {kd vl : Nat → Nat} {i l j : Nat} (h : spH tl nv kd vl i = .inr (l, j)) (v3 : kd (i + 1) = 3 → vl (i + 1) < 8) : (kd i = 17 ∧ l = 19 + nv ∧ nv < 6) ∨ (kd i ≠ 17 ∧ l < 19) := by
  unfold spH at h
  repeat' split at h
  all_goals first | (cases h; omega) | (cases h)
section
variable {n : Nat} {T : Nat → Nat} {m : Nat} {F : Nat}
theorem begin_x {l : Nat} {h : PH} (hl : l < 25) : F_X2_beginLine 4 (nI l) h = some (hs h 7 l (h.1 4 6)) := by
  unfold F_X2_beginLine
  rw [if_pos (nI_in0 hl (by omega)), nI_clamp (by omega)]
  rfl
theorem endl_x {l : Nat} {h : PH} (hl : l < 25) : F_X2_endLine 4 (nI l) h = some (hs h 8 l (h.1 4 6)) := by
  unfold F_X2_endLine
  rw [if_pos (nI_in0 hl (by omega)), nI_clamp (by omega)]
  rfl
theorem E_ne {r : Bool} {E C : List Nat} (S : Same r E C) : E ≠ [] := by
  rintro rfl
  cases r with
  | true =>
    obtain ⟨v, h, -⟩ := S.2 100 (fun k a => if k = 2 then nI a else 0) (fun _ => 0) (Nat.le_refl _) ⟨fun a => rfl, fun a ha => rfl⟩
    cases h
  | false =>
    obtain ⟨v, h, -⟩ := S.2 100 (fun k a => if k = 2 then nI a else 0) (fun _ => 0) (Nat.le_refl _) ⟨fun a => rfl, fun a ha => rfl, fun a ha => rfl, fun a ha => rfl, rfl, rfl⟩
    cases h
theorem o78 {a b j : Nat} {x : Int32} {h : PH} (ha : a = 7 ∨ a = 8) : ∀ k i, (k = 3 ∨ k = 6 ∨ k = 11 ∨ k = 12 ∨ k = 13 ∨ (k = 4 ∧ i = 6)) → (hs h a j x).1 k i = h.1 k i := fun k i q => by rw [hs_1, if_neg (by omega)]
/-- behind the head: line l, at token s -/
theorem b42_x {N s l nv : Nat} {D : List Nat} {h : PH} {tl : Nat → Bool} {EL : Nat → List Nat} (hN : 2000 ≤ N) (hl : l < 25) (S : PaS n T m false F s D h) (hD : D.length ≤ s) (hn : h.1 4 1 = nI nv) (nvb : nv ≤ 6) (hnv : ∀ x, x < 6 → (tup tl l (19 + x) = true ↔ x < nv)) (L : ∀ x, x < 25 → x ≠ l → if tl x then ∃ b, EL x ≠ [] ∧ b + (EL x).length ≤ D.length ∧ h.1 7 x = nI b ∧ h.1 8 x = nI (b + (EL x).length) ∧ ∀ t, t < (EL x).length → D.getD (b + t) 0 = (EL x).getD t 0 else h.1 7 x = 0 ∧ h.1 8 x = 0) : okV (F_X5_circuitLine_b42 N (nI l) h) (fun h' => (match spE (kdf n T) (spP false F (kdf n T) (vlf n T) 5) s with
    | .inl (k, j) => PaF n T m false F (k + 16 * tkb n T j) h'
    | .inr (e, E, C) => if kdf n T e = 11 then s < e ∧ e < m ∧ E.length + s ≤ e ∧ PaS n T m false F (e + 1) (D ++ E) h' ∧ DrL (tup tl l) (lup EL l E) nv (D ++ E) h' else PaF n T m false F (1 + 16 * tkb n T e) h') ∧ fq [6, 7, 8] KC h h') := by
  have jm : m ≤ 1000 := Nat.le_trans S.1.1.1 S.1.2.1
  have sm : s ≤ m := S.2.1
  have hF : F ≤ 6 := S.1.2.2.2.2
  unfold F_X5_circuitLine_b42
  rw [begin_x hl, bV_s]
  have S1 : PaS n T m false F s D (hs h 7 l (h.1 4 6)) := PaS_o S (o78 (Or.inl rfl) (b := 0))
  have f1 : fq [6, 7, 8] KC h (hs h 7 l (h.1 4 6)) := fq_s fq_0 (Or.inl (by decide))
  obtain ⟨h2, e2, P2, f2⟩ := (cG (n := n) (T := T) (m := m) (r := false) (F := F) hN).1 _ _ _ hD S1
  rw [e2, bV_s, endl_x hl, bV_s]
  refine okV_bV ?_
  have f3 : fq [6, 7, 8] KC h2 (hs h2 8 l (h2.1 4 6)) := fq_s fq_0 (Or.inl (by decide))
  have fA : fq [6, 7, 8] KC h (hs h2 8 l (h2.1 4 6)) := fq_t f1 (fq_t (KC_w f2) f3)
  cases hs0 : spE (kdf n T) (spP false F (kdf n T) (vlf n T) 5) s with
  | inl e =>
    rw [hs0] at P2
    rw [expectF_x (PaF_o P2 (o78 (Or.inr rfl) (b := 0)))]
    exact okV_s (okV_s ⟨PaF_o P2 (o78 (Or.inr rfl) (b := 0)), fA⟩)
  | inr q =>
    obtain ⟨e, E, C⟩ := q
    rw [hs0] at P2
    obtain ⟨p1, p2, p3⟩ := P2
    have em : e ≤ m := p3.2.1
    have sE := same_E hF (fun i => kd2 n T (tkb n T i)) hs0
    have p4 : PaS n T m false F e (D ++ E) (hs h2 8 l (h2.1 4 6)) := PaS_o p3 (o78 (Or.inr rfl) (b := 0))
    refine okV_m (expect_x (k := 11) p4 (by simp; omega) (by omega) (by omega)) (fun h' z => okV_s ⟨?_, fq_t fA (KC_w z.2)⟩)
    have z1 := z.1
    show if kdf n T e = 11 then s < e ∧ e < m ∧ E.length + s ≤ e ∧ PaS n T m false F (e + 1) (D ++ E) h' ∧ DrL (tup tl l) (lup EL l E) nv (D ++ E) h' else PaF n T m false F (1 + 16 * tkb n T e) h'
    by_cases g : kdf n T e = 11
    · rw [if_pos g]
      rw [if_pos (show tkk n T (tkb n T e) = 11 from g)] at z1
      refine ⟨p1, z1.1, p2, z1.2, ?_⟩
      have o7 : ∀ x, h'.1 7 x = if x = l then nI D.length else h.1 7 x := fun x => by
        rw [z.2 7 x (by decide) (by simp [K5]), hs_1, if_neg (by decide), f2 7 x (by decide) (by simp [K5]), hs_1, if_pos rfl, S.2.2.2.2.2.2.1]
      have o8 : ∀ x, h'.1 8 x = if x = l then nI (D ++ E).length else h.1 8 x := fun x => by
        rw [z.2 8 x (by decide) (by simp [K5]), hs_1, if_pos rfl, p3.2.2.2.2.2.2.1, f2 8 x (by decide) (by simp [K5]), hs_1, if_neg (show ¬ (8 : Nat) = 7 by decide)]
      refine ⟨?_, nvb, hnv, fun x hx => ?_⟩
      · rw [z.2 4 1 (by decide) (by decide), hs_1, if_neg (by decide), f2 4 1 (by decide) (by decide), hs_1, if_neg (by decide)]
        exact hn
      · rw [o7, o8]
        unfold tup lup
        by_cases q : x = l
        · rw [if_pos q, if_pos q, if_pos q, if_pos q, if_pos rfl]
          refine ⟨D.length, E_ne sE, by simp, rfl, by simp, fun t ht => ?_⟩
          rw [List.getD_eq_getElem?_getD, List.getD_eq_getElem?_getD, List.getElem?_append_right (by omega), Nat.add_sub_cancel_left]
        · rw [if_neg q, if_neg q, if_neg q, if_neg q]
          have := L x hx q
          by_cases g2 : tl x = true
          · rw [if_pos g2] at this ⊢
            obtain ⟨b, h0, h1, h2, h3, h4⟩ := this
            refine ⟨b, h0, by simp; omega, h2, h3, fun t ht => ?_⟩
            rw [← h4 t ht, List.getD_eq_getElem?_getD, List.getD_eq_getElem?_getD, List.getElem?_append_left (by omega)]
          · rw [if_neg g2] at this ⊢
            exact this
    · rw [if_neg g]
      rw [if_neg (show ¬ tkk n T (tkb n T e) = 11 from g)] at z1
      exact z1
theorem b42F_x {N l : Nat} {e0 : Nat} {h : PH} (hN : 2000 ≤ N) (hl : l < 25) (S : PaF n T m false F e0 h) : okV (F_X5_circuitLine_b42 N (nI l) h) (fun h' => PaF n T m false F e0 h' ∧ fq [6, 7, 8] KC h h') := by
  unfold F_X5_circuitLine_b42
  rw [begin_x hl, bV_s]
  obtain ⟨h2, e2, P2, f2⟩ := (cG (n := n) (T := T) (m := m) (r := false) (F := F) hN).2 _ _ (PaF_o S (o78 (j := l) (x := h.1 4 6) (Or.inl rfl) (b := 0)))
  rw [e2, bV_s, endl_x hl, bV_s, expectF_x (PaF_o P2 (o78 (Or.inr rfl) (b := 0))), bV_s]
  exact okV_s ⟨PaF_o P2 (o78 (Or.inr rfl) (b := 0)), fq_t (fq_s fq_0 (Or.inl (by decide))) (fq_t (KC_w f2) (fq_s fq_0 (Or.inl (by decide))))⟩
theorem cline_x {N i nv : Nat} {D : List Nat} {h : PH} {tl : Nat → Bool} {EL : Nat → List Nat} (hN : 2000 ≤ N) (S : PaS n T m false F i D h) (L : DrL tl EL nv D h) (hD : D.length ≤ i) (hi : i < m) : okV (F_X5_circuitLine N h) (fun h' => (match spLn F tl nv (kdf n T) (vlf n T) i with
    | .inl (k, j) => PaF n T m false F (k + 16 * tkb n T j) h'
    | .inr (l, i', E, C) => i < i' ∧ (D ++ E).length ≤ i' ∧ PaS n T m false F i' (D ++ E) h' ∧ DrL (tup tl l) (lup EL l E) (if kdf n T i = 17 then nv + 1 else nv) (D ++ E) h') ∧ fq [6, 7, 8] KC h h') := by
  have jm : m ≤ 1000 := Nat.le_trans S.1.1.1 S.1.2.1
  have kl : kdf n T i < 35 := kd_le n T (tkb n T i)
  have hk : h.1 3 3 = nI (kdf n T i) := S.2.2.2.1
  have e0 : F_X5_circuitLine N h = F_X5_circuitLine_b14 N (if kdf n T i = 17 then 1 else 0) h := by
    unfold F_X5_circuitLine
    rw [hk]
    by_cases g : kdf n T i = 17
    · rw [if_pos ((n_eq_l 17 (by omega) (by omega)).mpr g), if_pos g]
    · rw [if_neg (fun z => g ((n_eq_l 17 (by omega) (by omega)).mp z)), if_neg g]
  rw [e0]
  unfold F_X5_circuitLine_b14
  obtain ⟨v, h2, e2, P2, f2⟩ := lineTold_x S L hD hi
  rw [e2, bI_s]
  obtain ⟨nw, hnw⟩ : ∃ nw, (if kdf n T i = 17 then nv + 1 else nv) = nw := ⟨_, rfl⟩
  rw [hnw] at P2 ⊢
  unfold spLn
  cases hh : spH tl nv (kdf n T) (vlf n T) i with
  | inl e =>
    rw [hh] at P2
    obtain ⟨k, j⟩ := e
    have nz : ¬ h2.1 3 5 = 0 := fun z => by
      rw [P2.2.1] at z
      have := (n_eq_l 0 (by have := P2.2.2.2.1; omega) (by omega)).mp z
      have := P2.2.2.1
      omega
    rw [if_neg nz]
    exact okV_s ⟨P2, KC_v f2⟩
  | inr q =>
    obtain ⟨l, j⟩ := q
    rw [hh] at P2
    obtain ⟨rfl, hl, hij, S2, n2⟩ := P2
    have hs1 := spH_le hh
    have hs2 := spH_n hh (kd2 n T (tkb n T (i + 1))).2
    rw [if_pos S2.2.2.2.2.2.1]
    have jk : j < m := by
      have : kdf n T j ≠ 0 := by
        unfold spH at hh
        repeat' split at hh
        all_goals first | (cases hh; omega) | (cases hh)
      exact not_end S2 this
    obtain ⟨h3, e3, S3, f3⟩ := adv_x S2 jk
    rw [e3, bV_s]
    have n3 : h3.1 4 1 = nI nw := by rw [f3 4 1 (by decide) (by decide)]; exact n2
    have nvb : nw ≤ 6 := by
      have := L.2.1
      rw [← hnw]
      split <;> omega
    have hnv : ∀ x, x < 6 → (tup tl l (19 + x) = true ↔ x < nw) := fun x hx => by
      have := L.2.2.1 x hx
      unfold tup
      rw [← hnw]
      rcases hs2 with ⟨q1, q2, q3⟩ | ⟨q1, q2⟩
      · rw [if_pos q1]
        by_cases z : 19 + x = l
        · rw [if_pos z]; simp; omega
        · rw [if_neg z, this]; omega
      · rw [if_neg q1, if_neg (by omega), this]
    have LL : ∀ h' : PH, fq [6] K5 h3 h' → ∀ x, x < 25 → x ≠ l → if tl x then ∃ b, EL x ≠ [] ∧ b + (EL x).length ≤ D.length ∧ h'.1 7 x = nI b ∧ h'.1 8 x = nI (b + (EL x).length) ∧ ∀ t, t < (EL x).length → D.getD (b + t) 0 = (EL x).getD t 0 else h'.1 7 x = 0 ∧ h'.1 8 x = 0 := fun h' f x hx _ => by
      rw [f 7 x (by decide) (by simp [K5]), f 8 x (by decide) (by simp [K5]), f3 7 x (by decide) (by simp [K5]), f3 8 x (by decide) (by simp [K5]), f2 7 x (by decide) (by simp [K5]), f2 8 x (by decide) (by simp [K5])]
      exact L.2.2.2 x hx
    have fin : ∀ (s : Nat) (h4 : PH), PaS n T m false F s D h4 → fq [6] K5 h3 h4 → i < s → D.length ≤ s → okV (F_X5_circuitLine_b42 N (nI l) h4) (fun h' => (match (match spE (kdf n T) (spP false F (kdf n T) (vlf n T) 5) s with
        | .inl e => .inl e
        | .inr (e, E, C) => if kdf n T e = 11 then .inr (l, e + 1, E, C) else .inl (1, e) : LNo) with
        | .inl (k, j) => PaF n T m false F (k + 16 * tkb n T j) h'
        | .inr (l, i', E, C) => i < i' ∧ (D ++ E).length ≤ i' ∧ PaS n T m false F i' (D ++ E) h' ∧ DrL (tup tl l) (lup EL l E) nw (D ++ E) h') ∧ fq [6, 7, 8] KC h h') := by
      intro s h4 S4 f4 his hDs
      have n4 : h4.1 4 1 = nI nw := by rw [f4 4 1 (by decide) (by decide)]; exact n3
      refine okV_m (b42_x (l := l) hN hl S4 hDs n4 nvb hnv (LL h4 f4)) (fun h' z => ⟨?_, fq_t (KC_v f2) (fq_t (KC_w f3) (fq_t (KC_w f4) z.2))⟩)
      have z1 := z.1
      cases hE : spE (kdf n T) (spP false F (kdf n T) (vlf n T) 5) s with
      | inl e => rw [hE] at z1; exact z1
      | inr q =>
        obtain ⟨e, E, C⟩ := q
        rw [hE] at z1
        show match (if kdf n T e = 11 then .inr (l, e + 1, E, C) else .inl (1, e) : LNo) with
          | .inl (k, j) => PaF n T m false F (k + 16 * tkb n T j) h'
          | .inr (l, i', E, C) => i < i' ∧ (D ++ E).length ≤ i' ∧ PaS n T m false F i' (D ++ E) h' ∧ DrL (tup tl l) (lup EL l E) nw (D ++ E) h'
        have z2 : if kdf n T e = 11 then s < e ∧ e < m ∧ E.length + s ≤ e ∧ PaS n T m false F (e + 1) (D ++ E) h' ∧ DrL (tup tl l) (lup EL l E) nw (D ++ E) h' else PaF n T m false F (1 + 16 * tkb n T e) h' := z1
        by_cases g : kdf n T e = 11
        · rw [if_pos g] at z2 ⊢
          exact ⟨by omega, by simp; omega, z2.2.2.2.1, z2.2.2.2.2⟩
        · rw [if_neg g] at z2 ⊢
          exact z2
    show okV _ (fun h' => (match (if kdf n T i ≠ 17 ∧ kdf n T (j + 1) ≠ 7 then .inl (1, j + 1) else match spE (kdf n T) (spP false F (kdf n T) (vlf n T) 5) (if kdf n T i = 17 then j + 1 else j + 2) with
      | .inl e => .inl e
      | .inr (e, E, C) => if kdf n T e = 11 then .inr (l, e + 1, E, C) else .inl (1, e) : LNo) with
      | .inl (k, j) => PaF n T m false F (k + 16 * tkb n T j) h'
      | .inr (l, i', E, C) => i < i' ∧ (D ++ E).length ≤ i' ∧ PaS n T m false F i' (D ++ E) h' ∧ DrL (tup tl l) (lup EL l E) nw (D ++ E) h') ∧ fq [6, 7, 8] KC h h')
    by_cases g : kdf n T i = 17
    · rw [if_pos g, if_neg (show ¬ (1 : Int32) = 0 by decide), if_neg (fun z => z.1 g), if_pos g]
      exact fin (j + 1) h3 S3 fq_0 (by omega) (by omega)
    · rw [if_neg g, if_pos (show (0 : Int32) = 0 from rfl), if_neg g]
      refine okV_bV (okV_m (expect_x (k := 7) S3 (by omega) (by omega) (by omega)) (fun h4 z => ?_))
      have z1 := z.1
      by_cases g7 : kdf n T (j + 1) = 7
      · rw [if_neg (fun z => z.2 g7)]
        rw [if_pos (show tkk n T (tkb n T (j + 1)) = 7 from g7)] at z1
        exact fin (j + 2) h4 z1.2 z.2 (by omega) (by omega)
      · rw [if_pos ⟨g, g7⟩]
        rw [if_neg (show ¬ tkk n T (tkb n T (j + 1)) = 7 from g7)] at z1
        exact okV_m (b42F_x hN hl z1) (fun h' q => ⟨q.1, fq_t (KC_v f2) (fq_t (KC_w f3) (fq_t (KC_w z.2) q.2))⟩)
end
