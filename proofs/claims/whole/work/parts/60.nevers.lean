/-! never() and neverRow() -/
section
variable {F N nv : Nat} {T : Nat → Int32 → Bool} {s : Nat × Nat × Nat} {j : Nat}
theorem LnT_105 {l : Nat} {h : PH} (L : LnT T nv h) (hl : l < 6) : h.1 105 (19 + l) = (if l < nv then 1 else 0) := by
  obtain ⟨tl, EL, CL, a1, a2, a3, a4, a5⟩ := L
  have b := a4 (19 + l) (by omega)
  by_cases g : l < nv
  · rw [if_pos ((a3 l hl).mpr g)] at b
    rw [if_pos g]; exact b.2.2.1
  · rw [if_neg (fun z => g ((a3 l hl).mp z))] at b
    rw [if_neg g]; exact b.2
theorem LnT_n {h : PH} (L : LnT T nv h) : h.1 15 1 = nI nv ∧ nv ≤ 6 := by
  obtain ⟨tl, EL, CL, a1, a2, a3, a4, a5⟩ := L
  exact ⟨a1, a2⟩
theorem wo_T {l : Nat} {bits : Int32} {h : PH} (hN : 5000 ≤ N) (L : LnT T nv h) (hl : l < nv) (A : Agr false (lfC bits (h.1 16)) (h.1 123)) : okI (F_X12_worth N (nI (19 + l)) h) (fun v h' => (v = 0 ↔ T (19 + l) bits = false) ∧ VF h h') := by
  obtain ⟨tl, EL, CL, a1, a2, a3, a4, a5⟩ := L
  have b := a4 (19 + l) (by omega)
  have g := (a3 l (by omega)).mpr hl
  rw [if_pos g] at b
  obtain ⟨b1, b2, b3, k, b4, b5, b6, b7⟩ := b
  obtain ⟨v, q, V⟩ := b1.2 N (lfC bits (h.1 16)) (h.1 123) (by omega) A
  refine okI_m (worth_x hN (by omega) b5 b6 (by omega) (fun _ _ => rfl) b7 V) (fun x k z => ⟨?_, z.2⟩)
  have t : tv (h.1 16) (EL (19 + l)) bits = v := by unfold tv; rw [q]
  rw [a5, g, t, z.1]
  simp
theorem AM_mv {q : List ((Nat × Nat × Nat) × Nat × Nat × Nat)} {h h' : PH} (A : AM F T q h) (f : fq MvS MvK h h') : AM F T q h' := AM_q A (fun a b z => f a b (by simp [MvS]; omega) (by simp [MvK]; omega))
theorem bk6 {l : Nat} (hN : 5000 ≤ N) (hF0 : 0 < F) (hF : F ≤ 6) (hl : l < nv) (hn : nv ≤ 6) : ∀ (k i : Nat) (h : PH), i ≤ (qAll F T).length → 3072 < k + i → i ≤ brN F T l → LnT T nv h → AM F T (qAll F T) h → okI (F_X12_breaks_b6 N k (nI l) (nI i) h) (fun v h' => v = (if brN F T l < (qAll F T).length then nI (msN (qS (qAll F T) (brN F T l))) else -1) ∧ fq MvS MvK h h') := by
  have G := qAll_G (T := T) hF0
  have ql := QD_le G.1 hF
  have bl : brN F T l ≤ (qAll F T).length := fa_first_le _ _
  have by' : brN F T l < (qAll F T).length → T (19 + l) (nI (fct (qS (qAll F T) (brN F T l)) 0 (qS (qAll F T) (brN F T l)).1)) = true := fa_first_yes (fun i => T (19 + l) (nI (fct (qS (qAll F T) i) 0 (qS (qAll F T) i).1))) _
  have bn : ∀ k, k < brN F T l → T (19 + l) (nI (fct (qS (qAll F T) k) 0 (qS (qAll F T) k).1)) = false := fa_first_no (fun i => T (19 + l) (nI (fct (qS (qAll F T) i) 0 (qS (qAll F T) i).1))) _
  generalize brN F T l = m at *
  intro k
  induction k with
  | zero => intro i h h1 h2; omega
  | succ k ih =>
    intro i h h1 h2 h3 L A
    rw [F_X12_breaks_b6, A.1]
    by_cases g : (qAll F T).length ≤ i
    · rw [if_pos (nI_le g (by omega)), if_neg (by omega)]
      exact okI_s ⟨rfl, fq_0⟩
    · have g' : i < (qAll F T).length := by omega
      have o := G.1.1 i g'
      have ml := ms_lt o hF
      rw [if_neg (nI_ge g' (by omega)), if_pos (nI_in0 (by omega) (by omega)), nI_clamp (by omega), (A.2.1 i g').1, relM o hF]
      obtain ⟨h4, e4, S4, f4⟩ := sets_x (h := h) hN o hF (Nat.zero_le F) o.1
      rw [show F_X12_sets N (nI (msN (qS (qAll F T) i))) (nI (qS (qAll F T) i).1) (-1) h = _ from e4, bV_s, show (19 : Int32) = nI 19 from rfl, nI_add]
      have f4' := Mv_123 f4
      obtain ⟨v, h5, e5, q5, f5⟩ := wo_T hN (LnT_m L f4') hl (agr_S o hF (Nat.zero_le F) o.1 S4)
      have f5' : fq MvS MvK h h5 := fq_t f4' (Mv_v f5)
      rw [e5, bI_s]
      by_cases z : v = 0
      · rw [if_pos z, ib_e, nI_1]
        have ne : i ≠ m := fun y => by
          have := q5.mp z
          rw [y, by' (by omega)] at this
          cases this
        exact okI_m (ih (i + 1) h5 (by omega) (by omega) (by omega) (LnT_m L f5') (AM_mv A f5')) (fun v k2 y => ⟨y.1, fq_t f5' y.2⟩)
      · have im : i = m := by
          by_cases y : i < m
          · exact absurd (q5.mpr (bn i y)) z
          · omega
        subst im
        rw [if_neg z]
        unfold F_X12_breaks_b46
        rw [if_pos (nI_in0 (by omega) (by omega)), nI_clamp (by omega), ((AM_mv A f5').2.1 i g').1, if_pos g']
        exact okI_s ⟨rfl, f5'⟩
def GvK : List (Nat × Nat) := (103, 0) :: GtK
theorem breaks_x {l : Nat} {h : PH} (hN : 5000 ≤ N) (hF0 : 0 < F) (hF : F ≤ 6) (hl : l < nv) (L : LnT T nv h) (C : HM F h) (A : AuM F T h) : okI (F_X12_breaks N (nI l) h) (fun v h' => v = (if brN F T l < (qAll F T).length then nI (msN (qS (qAll F T) (brN F T l))) else -1) ∧ AuK F T h' ∧ fq GtS GtK h h') := by
  unfold F_X12_breaks
  obtain ⟨h1, e1, K, f1⟩ := goes_x hN hF0 hF L C A
  rw [e1, bV_s]
  refine okI_m (bk6 hN hF0 hF hl (LnT_n L).2 N 0 h1 (by omega) (by omega) (by omega) (LnT_gt L f1) K.2.1) (fun v k y => ⟨y.1, AuK_q K (fun a b z => y.2 a b (by simp [MvS]; omega) (by simp [MvK]; omega)), fq_t f1 (fq_w y.2 (by simp [GtS, MtS, MvS]) (by simp [GtK, MtK, MvK]))⟩)
def NvS : List Nat := EyS ++ GtS ++ [37, 38]
def NvK : List (Nat × Nat) := (103, 0) :: (ExK ++ GtK)
theorem nvC {h h' : PH} (f : fq EyS ExK h h') : fq NvS NvK h h' := fq_w f (fun k z => List.mem_append_left _ (List.mem_append_left _ z)) (fun q z => Or.inl (List.mem_cons_of_mem _ (List.mem_append_left _ z)))
theorem nvM {h h' : PH} (f : fq GtS GtK h h') : fq NvS NvK h h' := fq_w f (fun k z => List.mem_append_left _ (List.mem_append_right _ z)) (fun q z => Or.inl (List.mem_cons_of_mem _ (List.mem_append_right _ z)))
theorem LnT_nv {h h' : PH} (L : LnT T nv h) (f : fq NvS NvK h h') : LnT T nv h' := LnT_q L (fun a b p => f a b (by unfold LnP at p; simp [NvS, EyS, ExS, FdS, GtS, MtS, MvS]; omega) (by unfold LnP at p; simp [NvK, ExK, FdK, GtK, MtK]; omega))
theorem HM_nv {h h' : PH} (L : HM F h) (f : fq NvS NvK h h') : HM F h' := by
  unfold HM
  rw [f 103 1 (by simp [NvS, EyS, ExS, FdS, GtS, MtS, MvS]) (by simp [NvK, ExK, FdK, GtK, MtK])]
  exact L
theorem HC_nv {h h' : PH} (L : HC F h) (f : fq NvS NvK h h') : HC F h' := by
  unfold HC
  rw [f 14 1 (by simp [NvS, EyS, ExS, FdS, GtS, MtS, MvS]) (by simp [NvK, ExK, FdK, GtK, MtK])]
  exact L
theorem AtC_gt {h h' : PH} (A : AtC F T h) (hF : F ≤ 6) (f : fq GtS GvK h h') : AtC F T h' := AtC_q A hF (fun a b z => f a b (by simp [GtS, MtS, MvS]; omega) (by simp [GvK, GtK, MtK]; omega))
theorem AuM_ey {h h' : PH} (A : AuM F T h) (f : fq EyS ExK h h') : AuM F T h' := AuM_q A (fun a b z => f a b (by simp [EyS, ExS, FdS]; omega) (by simp [ExK, FdK]; omega))
theorem gv_k {h h' : PH} (f : fq GtS GtK h h') : fq GtS GvK h h' := fq_w f (fun k z => z) (fun q z => Or.inl (List.mem_cons_of_mem _ z))
theorem gv_n {h h' : PH} (f : fq GtS GvK h h') : fq NvS NvK h h' := fq_w f (fun k z => List.mem_append_left _ (List.mem_append_right _ z)) (fun q z => by
  rcases List.mem_cons.mp z with y | y
  · exact Or.inl (by rw [y]; exact List.mem_cons_self)
  · exact Or.inl (List.mem_cons_of_mem _ (List.mem_append_right _ y)))
theorem isNever_x {h : PH} (L : LnT T nv h) (a : Int32) : F_X12_isNever a h = some (if decide (0 ≤ a ∧ a < nI nv) = true then 1 else 0, h) := by
  obtain ⟨n1, n2⟩ := LnT_n L
  unfold F_X12_isNever F_X12_isNever_b25
  rw [within_x, bI_s]
  by_cases g : wth a 0 5 = true
  · rw [if_pos g, if_neg (by decide)]
    obtain ⟨w1, w2⟩ := of_decide_eq_true g
    obtain ⟨k, hk, rfl⟩ := nI_of (Int32.not_lt.mpr w1)
    have k5 : k ≤ 5 := (n_le_l 5 hk (by omega)).mp w2
    rw [show (19 : Int32) = nI 19 from rfl, nI_add, if_pos (nI_in0 (by omega) (by omega)), nI_clamp (by omega), LnT_105 L (by omega)]
    by_cases z : k < nv
    · rw [if_pos z, if_neg (by decide), if_pos (decide_eq_true ⟨w1, nI_lt z (by omega)⟩)]
    · rw [if_neg z, if_pos rfl, if_neg (fun y => z ((nI_ltI hk (by omega)).mp (of_decide_eq_true y).2))]
  · rw [if_neg g, if_pos rfl, if_neg (fun y => g (decide_eq_true ⟨(of_decide_eq_true y).1, by
      obtain ⟨y1, y2⟩ := of_decide_eq_true y
      obtain ⟨k, hk, rfl⟩ := nI_of (Int32.not_lt.mpr y1)
      exact (n_le_l 5 hk (by omega)).mpr (by have := (nI_ltI hk (by omega)).mp y2; omega)⟩))]
theorem wth01 (a : Int32) : wth a 0 1 = true ↔ a = 0 ∨ a = 1 := by
  unfold wth
  rw [decide_eq_true_iff]
  constructor
  · rintro ⟨h1, h2⟩
    obtain ⟨k, hk, rfl⟩ := nI_of (Int32.not_lt.mpr h1)
    have := (n_le_l 1 hk (by omega)).mp h2
    rcases (by omega : k = 0 ∨ k = 1) with z | z
    · exact Or.inl (by rw [z]; rfl)
    · exact Or.inr (by rw [z]; rfl)
  · rintro (h | h) <;> rw [h] <;> decide
/-- what is known stays known -/
def AtW (F : Nat) (T : Nat → Int32 → Bool) (h h' : PH) : Prop := (AtK F T h → AtK F T h') ∧ (AuK F T h → AuK F T h')
theorem AtW_0 {h : PH} (hF : F ≤ 6) : AtW F T h (hs h 103 0 0) := by
  have e : ∀ a b, ¬ (a = 103 ∧ b = 0) → (hs h 103 0 0).1 a b = h.1 a b := fun a b z => by
    rw [hs_1]
    by_cases y : a = 103
    · rw [if_pos y, if_neg (by omega)]
    · rw [if_neg y]
  exact ⟨fun A => AtK_q A hF (fun a b z => e a b (by omega)), fun A => AuK_q A (fun a b z => e a b (by omega))⟩
theorem AtW_1 {h h1 h2 : PH} (hF : F ≤ 6) (K1 : AtK F T h1) (K2 : AuK F T h2) (f : fq GtS GvK h1 h2) : AtW F T h h2 := ⟨fun _ => AtK_q K1 hF (fun a b z => f a b (by simp [GtS, MtS, MvS]; omega) (by simp [GvK, GtK, MtK]; omega)), fun _ => K2⟩
theorem P_never {h : PH} (hN : 5000 ≤ N) (hF0 : 0 < F) (hF : F ≤ 6) (L : LnT T nv h) (C : HC F h) (M : HM F h) (A : AtC F T h) (U : AuM F T h) (a b : Int32) : ∃ r h1 h2, F_X11_never N a b h = some (r, h1) ∧ F_X12_never N a b h1 = some (r, h2) ∧ AtC F T h2 ∧ AuM F T h2 ∧ AtW F T h h2 ∧ fq NvS NvK h h2 := by
  obtain ⟨n1, n2⟩ := LnT_n L
  have G := qAll_G (T := T) hF0
  have ql := QD_le G.1 hF
  have z0 : ∀ k : PH, fq GtS GvK k (hs k 103 0 0) := fun k => fq_s fq_0 (Or.inr (by decide))
  have u0 : ∀ {k : PH}, AuM F T k → AuM F T (hs k 103 0 0) := fun u => AuM_q u (fun a b z => by
    rw [hs_1]
    by_cases y : a = 103
    · rw [if_pos y, if_neg (by omega)]
    · rw [if_neg y])
  have ref : ∀ (r : Int32), F_X11_never N a b h = some (-1, h) → (decide (0 ≤ a ∧ a < nI nv) = false ∨ wth b 0 1 = false) → ∃ r h1 h2, F_X11_never N a b h = some (r, h1) ∧ F_X12_never N a b h1 = some (r, h2) ∧ AtC F T h2 ∧ AuM F T h2 ∧ AtW F T h h2 ∧ fq NvS NvK h h2 := by
    intro _ e c
    refine ⟨-1, h, hs h 103 0 0, e, ?_, AtC_gt A hF (z0 h), u0 U, AtW_0 hF, gv_n (z0 h)⟩
    unfold F_X12_never
    rw [hb_e, isNever_x (LnT_nv L (gv_n (z0 h))), bI_s]
    by_cases g : decide (0 ≤ a ∧ a < nI nv) = true
    · rcases c with c | c
      · rw [c] at g; cases g
      · rw [if_pos g, if_neg (by decide), within_x, bI_s, c, if_pos (by decide)]
    · rw [if_neg g, if_pos rfl]
  unfold F_X11_never at ref ⊢
  rw [n1] at ref ⊢
  by_cases g1 : a < 0
  · rw [if_pos g1] at ref ⊢
    exact ref 0 rfl (Or.inl (by simp; intro z; exact absurd g1 (Int32.not_lt.mpr z)))
  · rw [if_neg g1] at ref ⊢
    by_cases g2 : nI nv ≤ a
    · rw [if_pos g2] at ref ⊢
      exact ref 0 rfl (Or.inl (by simp; intro _; exact g2))
    · rw [if_neg g2] at ref ⊢
      by_cases g3 : b < 0
      · rw [if_pos g3] at ref ⊢
        exact ref 0 rfl (Or.inr (by unfold wth; simp; intro z; exact absurd g3 (Int32.not_lt.mpr z)))
      · rw [if_neg g3] at ref ⊢
        by_cases g4 : b ≤ 1
        · clear ref
          have wb : wth b 0 1 = true := decide_eq_true ⟨Int32.not_lt.mp g3, g4⟩
          obtain ⟨l, hl, rfl⟩ := nI_of g1
          have hl2 : l < nv := by
            by_cases y : l < nv
            · exact y
            · exact absurd (nI_le (by omega) hl) g2
          rw [if_pos g4]
          obtain ⟨v, h1, e1, rfl, K1, f1⟩ := breaker_x (l := l) hN hF0 hF (by omega) L C A
          rw [e1, bI_s]
          have z1 := z0 h1
          have L1 := LnT_nv L (nvC f1)
          obtain ⟨v2, h2, e2, rfl, K2, f2⟩ := breaks_x (l := l) (h := hs h1 103 0 0) hN hF0 hF hl2 (LnT_nv L1 (gv_n z1)) (HM_nv M (fq_t (nvC f1) (gv_n z1))) (u0 (AuM_ey U f1))
          have f12 : fq GtS GvK h1 h2 := fq_t z1 (gv_k f2)
          have mm : F_X12_never N (nI l) b h1 = (if b = 0 then (if 0 ≤ (if brN F T l < (qAll F T).length then nI (msN (qS (qAll F T) (brN F T l))) else -1) then some ((0 : Int32), h2) else some ((1 : Int32), h2)) else (if 0 ≤ (if brN F T l < (qAll F T).length then nI (msN (qS (qAll F T) (brN F T l))) else -1) then (if inb (if brN F T l < (qAll F T).length then nI (msN (qS (qAll F T) (brN F T l))) else -1) 3072 = true then some (h2.1 127 (if brN F T l < (qAll F T).length then nI (msN (qS (qAll F T) (brN F T l))) else -1).toNatClampNeg, h2) else none) else some ((-1 : Int32), h2))) := by
            unfold F_X12_never
            rw [hb_e, isNever_x (LnT_nv L1 (gv_n z1)), bI_s, if_pos (decide_eq_true ⟨nI_pos' hl, nI_lt hl2 (by omega)⟩), if_neg (by decide), within_x, bI_s, wb, if_neg (by decide), e2, bI_s]
          have fin : AtC F T h2 ∧ AuM F T h2 ∧ AtW F T h h2 ∧ fq NvS NvK h h2 := ⟨AtC_gt (Or.inr K1) hF f12, Or.inr K2, AtW_1 hF K1 K2 f12, fq_t (nvC f1) (gv_n f12)⟩
          have two : ∀ (x : Option (Int32 × PH)), (∃ r, x = some (r, h1) ∧ F_X12_never N (nI l) b h1 = some (r, h2)) → ∃ r k1 k2, x = some (r, k1) ∧ F_X12_never N (nI l) b k1 = some (r, k2) ∧ AtC F T k2 ∧ AuM F T k2 ∧ AtW F T h k2 ∧ fq NvS NvK h k2 := fun x ⟨r, y1, y2⟩ => ⟨r, h1, h2, y1, y2, fin⟩
          apply two
          rw [mm]
          rcases (wth01 b).mp wb with rfl | rfl
          · rw [if_pos rfl, if_pos rfl]
            unfold fOr
            by_cases y : brN F T l < (qAll F T).length
            · have ml := ms_lt (G.1.1 _ y) hF
              rw [if_pos y, if_neg (n_eq_m1 (by omega)), if_pos y, if_pos (nI_pos' (by omega))]
              exact ⟨_, rfl, rfl⟩
            · rw [if_neg y, if_pos rfl, if_neg y, if_neg (by decide)]
              exact ⟨_, rfl, rfl⟩
          · rw [if_neg (by decide), if_neg (by decide), rowl_x hF G K1.2.1, bI_s]
            by_cases y : brN F T l < (qAll F T).length
            · have ml := ms_lt (G.1.1 _ y) hF
              rw [if_pos y, if_pos y, if_pos (nI_pos' (by omega)), if_pos (nI_in0 ml (by omega)), nI_clamp (by omega), (K2.2.1.2.1 _ y).2.2.2.1]
              exact ⟨_, rfl, rfl⟩
            · rw [if_neg y, if_neg y, if_neg (by decide)]
              exact ⟨_, rfl, rfl⟩
        · rw [if_neg g4] at ref ⊢
          exact ref 0 rfl (Or.inr (by unfold wth; simp; intro _; exact Int32.not_le.mp g4))
theorem P_neverRow {h : PH} (hN : 5000 ≤ N) (hF0 : 0 < F) (hF : F ≤ 6) (L : LnT T nv h) (C : HC F h) (M : HM F h) (A : AtC F T h) (U : AuM F T h) (a b : Int32) : ∃ r h1 h2, F_X11_neverRow N a b h = some (r, h1) ∧ F_X12_neverRow N a b h1 = some (r, h2) ∧ AtC F T h2 ∧ AuM F T h2 ∧ AtW F T h h2 ∧ fq NvS NvK h h2 := by
  obtain ⟨n1, n2⟩ := LnT_n L
  have G := qAll_G (T := T) hF0
  have z0 : ∀ k : PH, fq GtS GvK k (hs k 103 0 0) := fun k => fq_s fq_0 (Or.inr (by decide))
  have u0 : ∀ {k : PH}, AuM F T k → AuM F T (hs k 103 0 0) := fun u => AuM_q u (fun a b z => by
    rw [hs_1]
    by_cases y : a = 103
    · rw [if_pos y, if_neg (by omega)]
    · rw [if_neg y])
  unfold F_X11_neverRow
  rw [n1]
  by_cases g : decide (0 ≤ a ∧ a < nI nv) = true
  · obtain ⟨w1, w2⟩ := of_decide_eq_true g
    obtain ⟨l, hl, rfl⟩ := nI_of (Int32.not_lt.mpr w1)
    have hl2 : l < nv := (nI_ltI hl (by omega)).mp w2
    rw [if_neg (nI_pos hl), if_pos w2]
    obtain ⟨v, h1, e1, rfl, K1, f1⟩ := breaker_x (l := l) hN hF0 hF (by omega) L C A
    rw [e1, bI_s]
    have z1 := z0 h1
    have L1 := LnT_nv L (nvC f1)
    obtain ⟨v2, h2, e2, rfl, K2, f2⟩ := breaks_x (l := l) (h := hs h1 103 0 0) hN hF0 hF hl2 (LnT_nv L1 (gv_n z1)) (HM_nv M (fq_t (nvC f1) (gv_n z1))) (u0 (AuM_ey U f1))
    have f12 : fq GtS GvK h1 h2 := fq_t z1 (gv_k f2)
    obtain ⟨x, ex1, ex2⟩ := rows_x hN hF G K1.2.1 K2.2.1 (brN F T l) b
    rw [ex1, bI_s]
    refine ⟨x, h1, h2, rfl, ?_, AtC_gt (Or.inr K1) hF f12, Or.inr K2, AtW_1 hF K1 K2 f12, fq_t (nvC f1) (gv_n f12)⟩
    unfold F_X12_neverRow
    rw [hb_e, isNever_x (LnT_nv L1 (gv_n z1)), bI_s, if_pos (decide_eq_true ⟨nI_pos' hl, nI_lt hl2 (by omega)⟩), if_neg (by decide), e2, bI_s, ex2, bI_s]
  · have e : (if a < 0 then some ((-1 : Int32), h) else if a < nI nv then bI (F_X0_breakerOf N a h) (fun r3 h4 => bI (F_X0_rowButton N r3 b h4) (fun r5 h6 => some (r5, h6))) else some ((-1 : Int32), h)) = some (-1, h) := by
      by_cases y : a < 0
      · rw [if_pos y]
      · rw [if_neg y, if_neg (fun z => g (decide_eq_true ⟨Int32.not_lt.mp y, z⟩))]
    rw [e]
    refine ⟨-1, h, hs h 103 0 0, rfl, ?_, AtC_gt A hF (z0 h), u0 U, AtW_0 hF, gv_n (z0 h)⟩
    unfold F_X12_neverRow
    rw [hb_e, isNever_x (LnT_nv L (gv_n (z0 h))), bI_s, if_neg g, if_pos rfl]
end
