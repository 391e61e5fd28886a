/-! what is kept of the search -/
def fOr (o : Nat) (n : Nat) : Int32 := if o < n then nI o else -1
def brN (F : Nat) (T : Nat → Int32 → Bool) (l : Nat) : Nat := fa_first (fun i => T (19 + l) (nI (fct (qS (qAll F T) i) 0 (qS (qAll F T) i).1))) (qAll F T).length
def opn (s : Nat × Nat × Nat) (f : Nat) : Bool := decide (s.2.2 = 1 ∧ s.2.1 = f)
def frg (F : Nat) (T : Nat → Int32 → Bool) (f : Nat) : Nat → Nat × Nat × Nat → Bool
  | 0, _ => true
  | p + 1, s => !opn s f && frg F T f p (nxt F T s 0).1
def fgN (F : Nat) (T : Nat → Int32 → Bool) (f p : Nat) : Nat := fa_first (fun i => frg F T f p (nxt F T (qS (qAll F T) i) (f + 1)).1) (qAll F T).length
def Brk (F : Nat) (T : Nat → Int32 → Bool) (h : PH) : Prop := ∀ l, l < 6 → h.1 22 l = -2 ∨ h.1 22 l = fOr (brN F T l) (qAll F T).length
def Fgt (F : Nat) (T : Nat → Int32 → Bool) (h : PH) : Prop := ∀ f, f < F → h.1 (24 + f) 0 = -2 ∨ (h.1 (24 + f) 0 = -1 ∧ ∀ p, 1 ≤ p → p ≤ 60 → h.1 (24 + f) p = fOr (fgN F T f p) (qAll F T).length)
def AtK (F : Nat) (T : Nat → Int32 → Bool) (h : PH) : Prop := h.1 21 12 = 1 ∧ AC F T (qAll F T) h ∧ XC F T (qAll F T).length 0 (qAll F T) h ∧ Brk F T h ∧ Fgt F T h
def AtC (F : Nat) (T : Nat → Int32 → Bool) (h : PH) : Prop := h.1 21 12 = 0 ∨ AtK F T h
def AuK (F : Nat) (T : Nat → Int32 → Bool) (h : PH) : Prop := h.1 103 37 = 1 ∧ AM F T (qAll F T) h ∧ XM F T (qAll F T).length 0 (qAll F T) h
def AuM (F : Nat) (T : Nat → Int32 → Bool) (h : PH) : Prop := h.1 103 37 = 0 ∨ AuK F T h
section
variable {F N nv : Nat} {T : Nat → Int32 → Bool} {q : List ((Nat × Nat × Nat) × Nat × Nat × Nat)}
theorem AtK_q {h h' : PH} (A : AtK F T h) (hF : F ≤ 6) (e : ∀ a b, (a = 21 ∧ (b = 12 ∨ b = 13)) ∨ a = 22 ∨ (24 ≤ a ∧ a ≤ 36) → h'.1 a b = h.1 a b) : AtK F T h' := by
  obtain ⟨a1, a2, a3, a4, a5⟩ := A
  refine ⟨by rw [e 21 12 (by omega)]; exact a1, AC_q a2 (fun a b z => e a b (by omega)), fun a b h1 h2 h3 => ?_, fun l hl => ?_, fun f hf => ?_⟩
  · rw [e 36 _ (by omega)]; exact a3 a b h1 h2 h3
  · rw [e 22 _ (by omega)]; exact a4 l hl
  · rcases a5 f hf with z | z
    · exact Or.inl (by rw [e (24 + f) 0 (by omega)]; exact z)
    · exact Or.inr ⟨by rw [e (24 + f) 0 (by omega)]; exact z.1, fun p h1 h2 => by rw [e (24 + f) p (by omega)]; exact z.2 p h1 h2⟩
theorem AtC_q {h h' : PH} (A : AtC F T h) (hF : F ≤ 6) (e : ∀ a b, (a = 21 ∧ (b = 12 ∨ b = 13)) ∨ a = 22 ∨ (24 ≤ a ∧ a ≤ 36) → h'.1 a b = h.1 a b) : AtC F T h' := by
  rcases A with z | z
  · exact Or.inl (by rw [e 21 12 (by omega)]; exact z)
  · exact Or.inr (AtK_q z hF e)
theorem AuK_q {h h' : PH} (A : AuK F T h) (e : ∀ a b, (a = 103 ∧ (b = 37 ∨ b = 38)) ∨ (124 ≤ a ∧ a ≤ 130) → h'.1 a b = h.1 a b) : AuK F T h' := by
  obtain ⟨a1, a2, a3⟩ := A
  refine ⟨by rw [e 103 37 (by omega)]; exact a1, AM_q a2 (fun a b z => e a b (by omega)), fun a b h1 h2 h3 => ?_⟩
  rw [e 129 _ (by omega)]; exact a3 a b h1 h2 h3
theorem AuM_q {h h' : PH} (A : AuM F T h) (e : ∀ a b, (a = 103 ∧ (b = 37 ∨ b = 38)) ∨ (124 ≤ a ∧ a ≤ 130) → h'.1 a b = h.1 a b) : AuM F T h' := by
  rcases A with z | z
  · exact Or.inl (by rw [e 103 37 (by omega)]; exact z)
  · exact Or.inr (AuK_q z e)
theorem explore_x {h : PH} (hN : 5000 ≤ N) (hF0 : 0 < F) (hF : F ≤ 6) (L : LnT T nv h) (C : HC F h) (A : AtC F T h) : okV (F_X0_explore N h) (fun h' => AtK F T h' ∧ fq EyS ExK h h') := by
  rcases A with z | z
  · refine okV_m (explore_0 hN hF0 hF L C z) (fun k y => ⟨⟨y.2.2.2.1, y.1, y.2.1, fun l hl => Or.inl (y.2.2.2.2.1 l hl), fun f hf => Or.inl (y.2.2.2.2.2.1 f (by omega))⟩, y.2.2.2.2.2.2⟩)
  · unfold F_X0_explore
    rw [if_neg (by rw [z.1]; decide)]
    exact okV_s ⟨z, fq_0⟩
theorem goes_x {h : PH} (hN : 5000 ≤ N) (hF0 : 0 < F) (hF : F ≤ 6) (L : LnT T nv h) (C : HM F h) (A : AuM F T h) : okV (F_X12_goesThrough N h) (fun h' => AuK F T h' ∧ fq GtS GtK h h') := by
  rcases A with z | z
  · exact okV_m (goes_0 hN hF0 hF L C z) (fun k y => ⟨⟨y.2.2.1, y.1, y.2.1⟩, y.2.2.2⟩)
  · unfold F_X12_goesThrough
    rw [if_neg (by rw [z.1]; decide)]
    exact okV_s ⟨z, fq_0⟩
theorem qD_le (G : QG F q) : ∀ i, i < q.length → qD q i ≤ i := by
  intro i
  induction i using Nat.strongRecOn with
  | ind i ih =>
    intro hi
    by_cases g : i = 0
    · subst g; rw [G.2.2.2.2.2]; exact Nat.le_refl _
    · obtain ⟨a, b⟩ := G.2.1 i (by omega) hi
      have := ih (qP q i) a (by omega)
      omega
theorem row_x {h h2 : PH} {pl : Nat} (hF : F ≤ 6) (G : QG F q) (A : AC F T q h) (M : AM F T q h2) (hpl : pl < 2147483647) : ∀ k k2 i, i < q.length → 0 < qD q i → qD q i ≤ k → qD q i ≤ k2 → ∃ a, F_X0_rowButton_b27 N k (nI pl) (nI i) (nI (qD q i - 1)) h = some (a, h) ∧ F_X12_rowTo_b22 N k2 (nI pl) (nI (msN (qS q i))) h2 = some (a, h2) := by
  have ql := QD_le G.1 hF
  intro k
  induction k with
  | zero => intro k2 i h1 h3 h4 h5; omega
  | succ k ih =>
    intro k2 i h1 h3 h4 h5
    obtain ⟨k2, rfl⟩ : ∃ m, k2 = m + 1 := ⟨k2 - 1, by omega⟩
    have dl := qD_le G i h1
    have ml := ms_lt (G.1.1 i h1) hF
    obtain ⟨a1, a2, a3, a4, a5⟩ := A.2.1 i h1
    obtain ⟨b1, b2, b3, b4, b5⟩ := M.2.1 i h1
    rw [F_X0_rowButton_b27, F_X12_rowTo_b22, if_pos (show inb (nI (msN (qS q i))) 3072 = true from nI_in0 ml (by omega)), nI_clamp (show msN (qS q i) < 2 ^ 31 by omega), b4, nI_1]
    by_cases g : qD q i ≤ pl + 1
    · rw [if_pos (nI_le (by omega) (by omega)), if_pos (nI_le g (by omega))]
      unfold F_X0_rowButton_b55 F_X12_rowTo_b44
      rw [if_pos (nI_in0 (by omega) (by omega)), if_pos (nI_in0 ml (by omega)), nI_clamp (by omega), nI_clamp (by omega), a3, b3, Int32.add_comm, bu_1]
      exact ⟨_, rfl, rfl⟩
    · have i0 : 0 < i := by
        by_cases z : i = 0
        · rw [z, G.2.2.2.2.2] at h3; omega
        · omega
      obtain ⟨p1, p2⟩ := G.2.1 i i0 h1
      rw [if_neg (show ¬ i = 0 by omega)] at a2 b2
      rw [if_neg (nI_ge (by omega) (by omega)), if_neg (nI_ge (by omega) (by omega)), if_pos (nI_in0 (by omega) (by omega)), nI_clamp (by omega), a2, if_neg (nI_pos (by omega)), if_pos (nI_in0 (by omega) (by omega)), ib_e, ib_e, if_pos (nI_in0 ml (by omega)), b2, ib_e]
      obtain ⟨d, hd⟩ : ∃ d, qD q i - 1 = d + 1 := ⟨qD q i - 2, by omega⟩
      rw [hd, pk_m1]
      have := ih k2 (qP q i) (by omega) (by omega) (by omega) (by omega)
      rw [show qD q (qP q i) - 1 = d by omega] at this
      exact this
/-- rows: lengths and buttons, the class's by number, the reference's by state -/
theorem rows_x {h h2 : PH} (hN : 5000 ≤ N) (hF : F ≤ 6) (G : QG F q) (A : AC F T q h) (M : AM F T q h2) (o : Nat) (pl : Int32) : ∃ a, F_X0_rowButton N (fOr o q.length) pl h = some (a, h) ∧ F_X12_rowTo N (if o < q.length then nI (msN (qS q o)) else -1) pl h2 = some (a, h2) := by
  have ql := QD_le G.1 hF
  unfold F_X0_rowButton F_X12_rowTo F_X0_rowLength F_X0_rowLength_b21 fOr
  by_cases g : o < q.length
  · have ml := ms_lt (G.1.1 o g) hF
    have dl := qD_le G o g
    obtain ⟨a1, a2, a3, a4, a5⟩ := A.2.1 o g
    obtain ⟨b1, b2, b3, b4, b5⟩ := M.2.1 o g
    rw [if_pos g, if_pos g, if_neg (show ¬ nI (msN (qS q o)) < 0 from nI_pos (by omega)), if_neg (show ¬ nI o < 0 from nI_pos (by omega)), A.1, if_neg (nI_ge g (by omega)), if_pos (nI_in0 (by omega) (by omega)), nI_clamp (by omega), a4, bI_s, if_pos (nI_in0 ml (by omega)), nI_clamp (by omega), b4]
    by_cases p0 : pl < 0
    · rw [if_pos p0, if_pos p0]
      exact ⟨_, rfl, rfl⟩
    · rw [if_neg p0, if_neg p0]
      obtain ⟨k, hk, rfl⟩ := nI_of p0
      by_cases g2 : k < qD q o
      · rw [if_pos (nI_lt g2 (by omega)), if_pos (nI_lt g2 (by omega)), if_pos (nI_in0 (by omega) (by omega)), a4, ib_e, nI_m1 (by omega)]
        exact row_x (pl := k) hF G A M (by omega) N N o g (by omega) (by omega) (by omega)
      · rw [if_neg (nI_nlt (by omega) hk), if_neg (nI_nlt (by omega) hk)]
        exact ⟨_, rfl, rfl⟩
  · rw [if_neg g, if_neg g, if_pos (show (-1 : Int32) < 0 by decide), bI_s, if_pos (show (-1 : Int32) < 0 by decide)]
    by_cases p0 : pl < 0
    · rw [if_pos p0]
      exact ⟨_, rfl, rfl⟩
    · rw [if_neg p0, if_neg (fun z => p0 (Int32.lt_trans z (by decide)))]
      exact ⟨_, rfl, rfl⟩
theorem rowl_x {h : PH} (hF : F ≤ 6) (G : QG F q) (A : AC F T q h) (o : Nat) : F_X0_rowLength (fOr o q.length) h = some (if o < q.length then nI (qD q o) else -1, h) := by
  have ql := QD_le G.1 hF
  unfold F_X0_rowLength F_X0_rowLength_b21 fOr
  by_cases g : o < q.length
  · rw [if_pos g, if_neg (nI_pos (by omega)), A.1, if_neg (nI_ge g (by omega)), if_pos (nI_in0 (by omega) (by omega)), nI_clamp (by omega), (A.2.1 o g).2.2.2.1, if_pos g]
  · rw [if_neg g, if_pos (by decide), if_neg g]
/-! the class's breaker -/
theorem br36 {l : Nat} (hN : 5000 ≤ N) (hF0 : 0 < F) (hF : F ≤ 6) (hl : l < 6) : ∀ (k i : Nat) (h : PH), i ≤ (qAll F T).length → 3072 < k + i → i ≤ brN F T l → LnT T nv h → AC F T (qAll F T) h → h.1 22 l = -1 → okI (F_X0_breakerOf_b36 N k (nI l) (nI i) h) (fun v h' => v = fOr (brN F T l) (qAll F T).length ∧ h'.1 22 l = v ∧ (∀ c, c ≠ l → h'.1 22 c = h.1 22 c) ∧ fr [20, 22] h h') := by
  have G := qAll_G (T := T) hF0
  have ql := QD_le G.1 hF
  have bl : brN F T l ≤ (qAll F T).length := fa_first_le _ _
  have by' : brN F T l < (qAll F T).length → T (19 + l) (nI (fct (qS (qAll F T) (brN F T l)) 0 (qS (qAll F T) (brN F T l)).1)) = true := fa_first_yes (fun i => T (19 + l) (nI (fct (qS (qAll F T) i) 0 (qS (qAll F T) i).1))) _
  have bn : ∀ k, k < brN F T l → T (19 + l) (nI (fct (qS (qAll F T) k) 0 (qS (qAll F T) k).1)) = false := fa_first_no (fun i => T (19 + l) (nI (fct (qS (qAll F T) i) 0 (qS (qAll F T) i).1))) _
  generalize brN F T l = m at *
  intro k
  induction k with
  | zero => intro i h h1 h2; omega
  | succ k ih =>
    intro i h h1 h2 h3 L A hb
    rw [F_X0_breakerOf_b36, A.1]
    by_cases g : (qAll F T).length ≤ i
    · rw [if_pos (nI_le g (by omega))]
      unfold F_X0_breakerOf_b84
      rw [if_pos (nI_in0 hl (by omega)), nI_clamp (by omega), hb]
      refine okI_s ⟨?_, hb, fun _ _ => rfl, fr_0⟩
      unfold fOr
      rw [if_neg (by omega)]
    · have g' : i < (qAll F T).length := by omega
      rw [if_neg (nI_ge g' (by omega)), if_pos (nI_in0 hl (by omega)), nI_clamp (by omega), hb, if_pos rfl, if_pos (nI_in0 (by omega) (by omega)), nI_clamp (by omega), (A.2.1 i g').1]
      obtain ⟨v, h', e, rfl, f⟩ := neverC hN L (G.1.1 i g') hF hl
      rw [e, bI_s]
      by_cases z : T (19 + l) (nI (fct (qS (qAll F T) i) 0 (qS (qAll F T) i).1)) = true
      · have im : i = m := by
          by_cases y : i < m
          · rw [bn i y] at z; cases z
          · omega
        subst im
        rw [if_pos z, if_neg (by decide), if_pos (nI_in0 hl (by omega)), hb_e]
        unfold F_X0_breakerOf_b78
        rw [ib_e, nI_1]
        -- the next look ends it
        obtain ⟨k, rfl⟩ : ∃ m, k = m + 1 := ⟨k - 1, by omega⟩
        have e13 : (hs h' 22 l (nI i)).1 21 13 = nI (qAll F T).length := by simp [hs_1]; rw [f 21 (by simp)]; exact A.1
        have e22 : (hs h' 22 l (nI i)).1 22 l = nI i := by simp [hs_1]
        have fin : ∃ x, F_X0_breakerOf_b36 N (k + 1) (nI l) (nI (i + 1)) (hs h' 22 l (nI i)) = some (x, hs h' 22 l (nI i)) ∧ x = nI i := by
          rw [F_X0_breakerOf_b36, e13]
          have b84 : F_X0_breakerOf_b84 N (nI l) (hs h' 22 l (nI i)) = some (nI i, hs h' 22 l (nI i)) := by
            unfold F_X0_breakerOf_b84
            rw [if_pos (nI_in0 hl (by omega)), nI_clamp (by omega), e22]
          rw [b84]
          by_cases y : nI (qAll F T).length ≤ nI (i + 1)
          · rw [if_pos y]; exact ⟨_, rfl, rfl⟩
          · rw [if_neg y, if_pos (nI_in0 hl (by omega)), nI_clamp (by omega), e22, if_neg (n_eq_m1 (by omega))]; exact ⟨_, rfl, rfl⟩
        obtain ⟨x, ex, rfl⟩ := fin
        rw [ex]
        refine okI_s ⟨?_, e22, fun c hc => ?_, fr_s (fr_w f (by simp)) (by simp)⟩
        · unfold fOr; rw [if_pos g']
        · rw [hs_1, if_pos rfl, if_neg hc, f 22 (by simp)]
      · rw [if_neg z, if_pos rfl]
        unfold F_X0_breakerOf_b78
        rw [ib_e, nI_1]
        have ne : i ≠ m := fun y => z (by rw [y]; exact by' (by omega))
        refine okI_m (ih (i + 1) h' (by omega) (by omega) (by omega) (LnT_20 L f) (AC_q A (fun a b c => congrFun (f a (by simp; omega)) b)) (by rw [f 22 (by simp)]; exact hb)) (fun v k2 y => ⟨y.1, y.2.1, fun c hc => ?_, fr_t (fr_w f (by simp)) y.2.2.2⟩)
        rw [y.2.2.1 c hc, f 22 (by simp)]
theorem breaker_x {l : Nat} {h : PH} (hN : 5000 ≤ N) (hF0 : 0 < F) (hF : F ≤ 6) (hl : l < 6) (L : LnT T nv h) (C : HC F h) (A : AtC F T h) : okI (F_X0_breakerOf N (nI l) h) (fun v h' => v = fOr (brN F T l) (qAll F T).length ∧ AtK F T h' ∧ fq EyS ExK h h') := by
  unfold F_X0_breakerOf
  obtain ⟨h1, e1, K, f1⟩ := explore_x hN hF0 hF L C A
  rw [e1, bV_s, if_neg (nI_pos (by omega)), if_pos ((n_lt_l 6 (by omega) (by omega)).mpr hl), if_pos (nI_in0 hl (by omega)), nI_clamp (by omega)]
  obtain ⟨k1, k2, k3, k4, k5⟩ := K
  by_cases g : h1.1 22 l = -2
  · rw [if_pos g, if_pos (nI_in0 hl (by omega)), hb_e]
    have f2 : fq EyS ExK h (hs h1 22 l (-1)) := fq_s f1 (Or.inl (by decide))
    refine okI_m (br36 hN hF0 hF hl N 0 _ (by omega) (by omega) (by omega) (LnT_ey L f2) (AC_q k2 (fun a b c => by rw [hs_1, if_neg (by omega)])) (by simp [hs_1])) (fun v k y => ⟨y.1, ?_, fq_t f2 (fq_w (fq_fr (K := []) y.2.2.2) (by simp [EyS, ExS, FdS]) (by simp))⟩)
    have e : ∀ a b, a ≠ 20 → a ≠ 22 → k.1 a b = h1.1 a b := fun a b z1 z2 => by rw [y.2.2.2 a (by simp; omega), hs_1, if_neg (by omega)]
    refine ⟨by rw [e 21 12 (by omega) (by omega)]; exact k1, AC_q k2 (fun a b c => e a b (by omega) (by omega)), fun a b h1 h2 h3 => by rw [e 36 _ (by omega) (by omega)]; exact k3 a b h1 h2 h3, fun c hc => ?_, fun f hf => ?_⟩
    · by_cases z : c = l
      · subst z; exact Or.inr (by rw [y.2.1]; exact y.1)
      · rw [y.2.2.1 c z, hs_1, if_pos rfl, if_neg z]
        exact k4 c hc
    · have e2 : ∀ b, k.1 (24 + f) b = h1.1 (24 + f) b := fun b => e _ _ (by omega) (by omega)
      rw [e2]
      rcases k5 f hf with z | z
      · exact Or.inl z
      · exact Or.inr ⟨z.1, fun p h1 h2 => by rw [e2]; exact z.2 p h1 h2⟩
  · rw [if_neg g]
    unfold F_X0_breakerOf_b84
    rw [if_pos (nI_in0 hl (by omega)), nI_clamp (by omega)]
    rcases k4 l hl with z | z
    · exact absurd z g
    · exact okI_s ⟨z, ⟨k1, k2, k3, k4, k5⟩, f1⟩
end
