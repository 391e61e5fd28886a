/-! what can be told by tests, of a set of states (by number) -/
def tOne (q : List ((Nat × Nat × Nat) × Nat × Nat × Nat)) (p : Nat → Prop) : Prop := ∀ x y, p x → p y → (qS q x).2.1 = (qS q y).2.1
def tImg (F : Nat) (T : Nat → Int32 → Bool) (q : List ((Nat × Nat × Nat) × Nat × Nat × Nat)) (p : Nat → Prop) (j l : Nat) : Nat → Prop := fun y => ∃ x, p x ∧ y = qIx q (nxt F T (qS q x) j).1 ∧ lmp T (qS q y) = l
def tCan (F : Nat) (T : Nat → Int32 → Bool) (q : List ((Nat × Nat × Nat) × Nat × Nat × Nat)) : Nat → (Nat → Prop) → Prop
  | 0, p => tOne q p
  | k + 1, p => tOne q p ∨ ∃ j, j ≤ F ∧ ∀ l, tCan F T q k (tImg F T q p j l)
def tTel (F : Nat) (T : Nat → Int32 → Bool) (q : List ((Nat × Nat × Nat) × Nat × Nat × Nat)) (k : Nat) (p : Nat → Prop) (j : Nat) : Prop := ∀ l, tCan F T q (k - 1) (tImg F T q p j l)
def inD (D : List Nat) : Nat → Prop := fun i => ∃ t, t < D.length ∧ D.getD t 0 = i
/-- the fewest tests and the button to begin with -/
def PlR (F : Nat) (T : Nat → Int32 → Bool) (q : List ((Nat × Nat × Nat) × Nat × Nat × Nat)) (p : Nat → Prop) (x y : Int32) : Prop := (tOne q p ∧ x = 0 ∧ y = -1) ∨ (¬ tOne q p ∧ ∃ k j, 1 ≤ k ∧ k ≤ 3 ∧ j ≤ F ∧ tTel F T q k p j ∧ (∀ k' j', 1 ≤ k' → j' ≤ F → k' < k ∨ (k' = k ∧ j' < j) → ¬ tTel F T q k' p j') ∧ x = nI k ∧ y = nI j) ∨ (¬ tOne q p ∧ (∀ k j, 1 ≤ k → k ≤ 3 → j ≤ F → ¬ tTel F T q k p j) ∧ x = -1 ∧ y = -1)
def GsB (F : Nat) (T : Nat → Int32 → Bool) (D : List Nat) (h : PH) : Prop := h.1 39 0 = 1 ∧ h.1 103 46 = 1 ∧ AtK F T h ∧ AuK F T h ∧ HdD (qAll F T).length D ∧ HdC D h ∧ HdM (qAll F T) 0 0 D h ∧ (h.1 39 12 = 0 ∨ (h.1 39 12 = 1 ∧ PlR F T (qAll F T) (inD D) (h.1 39 2) (h.1 39 3)))
def GsI (F : Nat) (T : Nat → Int32 → Bool) (h : PH) : Prop := (h.1 39 0 = 0 ∧ h.1 103 46 = 0) ∨ ∃ D, GsB F T D h
def GsP (a b : Nat) : Prop := (a = 21 ∧ (b = 12 ∨ b = 13)) ∨ a = 22 ∨ (24 ≤ a ∧ a ≤ 36) ∨ (a = 39 ∧ b ≤ 12) ∨ a = 42 ∨ (a = 103 ∧ (b = 37 ∨ b = 38 ∨ b = 46)) ∨ (124 ≤ a ∧ a ≤ 130) ∨ (a = 131 ∧ b < 3072) ∨ (a = 132 ∧ b = 0)
section
variable {F N nv : Nat} {T : Nat → Int32 → Bool}
theorem GsB_q {D : List Nat} {h h' : PH} (hF : F ≤ 6) (ql : (qAll F T).length ≤ 3072) (A : GsB F T D h) (e : ∀ a b, GsP a b → h'.1 a b = h.1 a b) : GsB F T D h' := by
  obtain ⟨a1, a2, a3, a4, a5, a6, a7, a8⟩ := A
  have dl := HdD_le a5
  unfold GsP at e
  refine ⟨by rw [e 39 0 (by omega)]; exact a1, by rw [e 103 46 (by omega)]; exact a2, AtK_q a3 hF (fun a b z => e a b (by omega)), AuK_q a4 (fun a b z => e a b (by omega)), a5, ⟨by rw [e 39 1 (by omega)]; exact a6.1, fun t ht => by rw [e 42 t (by omega)]; exact a6.2 t ht⟩, ⟨by rw [e 132 0 (by omega)]; exact a7.1, fun t ht => by rw [e 131 (0 + t) (by omega)]; exact a7.2 t ht⟩, ?_⟩
  rw [e 39 12 (by omega), e 39 2 (by omega), e 39 3 (by omega)]
  exact a8
theorem GsI_q {h h' : PH} (hF : F ≤ 6) (hF0 : 0 < F) (A : GsI F T h) (e : ∀ a b, GsP a b → h'.1 a b = h.1 a b) : GsI F T h' := by
  rcases A with ⟨z1, z2⟩ | ⟨D, z⟩
  · exact Or.inl ⟨by rw [e 39 0 (by unfold GsP; omega)]; exact z1, by rw [e 103 46 (by unfold GsP; omega)]; exact z2⟩
  · exact Or.inr ⟨D, GsB_q hF (QD_le (qAll_G hF0).1 hF) z e⟩
def SkS : List Nat := NvS ++ [42, 131]
def SkK : List (Nat × Nat) := NvK ++ [(39, 0), (39, 1), (39, 12), (103, 46), (132, 0)]
theorem skN {h h' : PH} (f : fq NvS NvK h h') : fq SkS SkK h h' := fq_w f (fun k z => List.mem_append_left _ z) (fun q z => Or.inl (List.mem_append_left _ z))
theorem areLamps_x (a : Int32) {h : PH} : F_X11_areLamps a h = some (if wth a 0 255 = true then 1 else 0, h) := by
  unfold F_X11_areLamps F_X11_areLamps_b15 wth
  by_cases h1 : a < 0
  · rw [if_pos h1, if_neg (by simp; intro q; exact absurd h1 (Int32.not_lt.mpr q))]
  · rw [if_neg h1]
    by_cases h2 : 255 < a
    · rw [if_pos h2, if_neg (by simp; intro _; exact h2)]
    · rw [if_neg h2, if_pos (by simp; exact ⟨Int32.not_lt.mp h1, Int32.not_lt.mp h2⟩)]
theorem wth_0n {a : Int32} {k : Nat} (hk : k < 2147483648) (h : wth a 0 (nI k) = true) : ∃ p, p ≤ k ∧ a = nI p := by
  obtain ⟨h1, h2⟩ := of_decide_eq_true h
  obtain ⟨p, hp, rfl⟩ := nI_of (x := a) (Int32.not_lt.mpr h1)
  exact ⟨p, (nI_leI hp (by omega)).mp h2, rfl⟩
theorem P_stuck {h : PH} (hN : 5000 ≤ N) (hF0 : 0 < F) (hF : F ≤ 6) (L : LnT T nv h) (C : HC F h) (M : HM F h) (A : AtC F T h) (U : AuM F T h) (S : GsI F T h) (a : Int32) : ∃ r h1 h2, F_X11_stuck N a h = some (r, h1) ∧ F_X12_stuck N a h1 = some (r, h2) ∧ AtC F T h2 ∧ AuM F T h2 ∧ GsI F T h2 ∧ fq SkS SkK h h2 := by
  have G := qAll_G (T := T) hF0
  have ql := QD_le G.1 hF
  unfold F_X11_stuck
  rw [areLamps_x, bI_s]
  by_cases g : wth a 0 255 = true
  · obtain ⟨p, hp, rfl⟩ := wth_0n (k := 255) (by omega) g
    rw [if_pos g, if_neg one10]
    unfold F_X3_start F_X0_howMany
    simp only [hb_e]
    generalize hk : hs (hs (hs h 39 0 1) 39 12 0) 39 1 0 = k0
    have fk : fq [] [(39, 0), (39, 1), (39, 12)] h k0 := by rw [← hk]; exact fq_s (fq_s (fq_s fq_0 (by decide)) (by decide)) (by decide)
    have fk' : fq SkS SkK h k0 := fq_w fk (by simp) (by simp [SkK])
    have L0 : LnT T nv k0 := LnT_q L (fun a b z => fk a b (by simp) (by unfold LnP at z; simp; omega))
    have C0 : HC F k0 := by unfold HC; rw [fk 14 1 (by simp) (by simp)]; exact C
    have A0 : AtC F T k0 := AtC_q A hF (fun a b z => fk a b (by simp) (by simp; omega))
    obtain ⟨h1, e1, K1, f1⟩ := explore_x hN hF0 hF L0 C0 A0
    have cg : ∀ b, h1.1 39 b = k0.1 39 b := fun b => f1 39 b (by simp [EyS, ExS, FdS]) (by simp [ExK, FdK])
    rw [e1, bV_s, bI_s, K1.2.1.1]
    obtain ⟨v, h2, e2, rfl, H2, f2⟩ := st25 (N := N) (a := p) hF G (by omega) N 0 h1 (by omega) (by omega) K1.2.1 ⟨by rw [cg, ← hk]; simp [hs_1, hld, nI_0], fun t ht => by simp [hld] at ht⟩
    rw [show F_X3_start_b25 N N (nI p) (nI (qAll F T).length) 0 h1 = _ from e2, bI_s]
    have f02 : fq SkS SkK h h2 := fq_t fk' (fq_t (skN (nvC f1)) (fq_w f2 (by simp [SkS]) (by simp [SkK])))
    -- the reference
    have z1 := z0 h2
    have f03 : fq SkS SkK h (hs h2 103 0 0) := fq_t f02 (skN (gv_n z1))
    have L3 : LnT T nv (hs h2 103 0 0) := LnT_q L (fun a b z => f03 a b (by unfold LnP at z; simp [SkS, NvS, EyS, ExS, FdS, GtS, MtS, MvS]; omega) (by unfold LnP at z; simp [SkK, NvK, ExK, FdK, GtK, MtK]; omega))
    have M3 : HM F (hs h2 103 0 0) := by unfold HM; rw [f03 103 1 (by simp [SkS, NvS, EyS, ExS, FdS, GtS, MtS, MvS]) (by simp [SkK, NvK, ExK, FdK, GtK, MtK])]; exact M
    have U3 : AuM F T (hs h2 103 0 0) := u0 (AuM_q U (fun a b z => by
      rw [f2 a b (by simp; omega) (by simp; omega), f1 a b (by simp [EyS, ExS, FdS]; omega) (by simp [ExK, FdK]; omega), fk a b (by simp) (by simp; omega)]))
    obtain ⟨h4, e4, K4, f4⟩ := goes_x hN hF0 hF L3 M3 U3
    have c0 : (0 : Int32).toNatClampNeg = 0 := rfl
    generalize hk5 : hs (hs h4 103 46 1) 132 0 0 = h5
    have f5 : fq [] [(103, 46), (132, 0)] h4 h5 := by rw [← hk5]; exact fq_s (fq_s fq_0 (by decide)) (by decide)
    have K5 : AuK F T h5 := AuK_q K4 (fun a b z => f5 a b (by simp) (by simp; omega))
    obtain ⟨v, h6, e6, rfl, H6, f6⟩ := st36 (N := N) (a := p) hF G (by omega) N 0 h5 (by omega) (by omega) K5.2.1 ⟨by rw [← hk5]; simp [hs_1, hld, nI_0], fun t ht => by simp [hld] at ht⟩
    have f26 : ∀ a b, a < 103 → h6.1 a b = h2.1 a b := fun a b z => by
      rw [f6 a b (by simp; omega) (by simp; omega), f5 a b (by simp) (by simp; omega), f4 a b (by simp [GtS, MtS, MvS]; omega) (by simp [GtK, MtK]; omega), hs_1, if_neg (by omega)]
    have K6 : AtK F T h6 := AtK_q K1 hF (fun a b z => by rw [f26 a b (by omega), f2 a b (by simp; omega) (by simp; omega)])
    have U6 : AuK F T h6 := AuK_q K5 (fun a b z => f6 a b (by simp; omega) (by simp; omega))
    refine ⟨_, h2, h6, rfl, ?_, Or.inr K6, Or.inr U6, Or.inr ⟨_, ?_, ?_, K6, U6, hld_D _ _ (Nat.le_refl _), ⟨?_, fun t ht => ?_⟩, H6, Or.inl ?_⟩, ?_⟩
    · unfold F_X12_stuck
      rw [hb_e, within_x, bI_s, if_pos g, if_neg one10, e4, bV_s, hb_e, if_pos (by decide), hb_e, c0, hk5]
      exact e6
    · rw [f26 39 0 (by omega), f2 39 0 (by simp) (by simp), cg, ← hk]; simp [hs_1]
    · rw [f6 103 46 (by simp) (by simp), ← hk5]; simp [hs_1]
    · rw [f26 39 1 (by omega)]; exact H2.1
    · rw [f26 42 t (by omega)]; exact H2.2 t ht
    · rw [f26 39 12 (by omega), f2 39 12 (by simp) (by simp), cg, ← hk]; simp [hs_1]
    · exact fq_t f03 (fq_t (skN (nvM f4)) (fq_t (fq_w f5 (by simp) (by simp [SkK])) (fq_w f6 (by simp [SkS]) (by simp [SkK]))))
  · rw [if_neg g, if_pos rfl]
    refine ⟨-1, h, hs h 103 0 0, rfl, ?_, AtC_gt A hF (z0 h), u0 U, GsI_q hF hF0 S (fun a b z => ?_), skN (gv_n (z0 h))⟩
    · unfold F_X12_stuck
      rw [hb_e, within_x, bI_s, if_neg g, if_pos rfl]
    · unfold GsP at z
      rw [hs_1]
      by_cases y : a = 103
      · rw [if_pos y, if_neg (by omega)]
      · rw [if_neg y]
end
