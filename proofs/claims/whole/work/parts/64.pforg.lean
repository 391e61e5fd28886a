/-! forgets() and forgetsRow() on both sides -/
section
variable {F N nv : Nat} {T : Nat → Int32 → Bool}
theorem nvZ {h h' : PH} (f : fq EzS ExK h h') : fq NvS NvK h h' := fq_w f (fun k z => by
  rcases List.mem_append.mp z with y | y
  · exact List.mem_append_left _ (List.mem_append_left _ y)
  · exact List.mem_append_right _ y) (fun q z => Or.inl (List.mem_cons_of_mem _ (List.mem_append_left _ z)))
theorem AuM_ez {h h' : PH} (A : AuM F T h) (f : fq EzS ExK h h') : AuM F T h' := AuM_q A (fun a b z => f a b (by simp [EzS, EyS, ExS, FdS]; omega) (by simp [ExK, FdK]; omega))
theorem one10 : ¬ (1 : Int32) = 0 := by decide
theorem isPat_x (a : Int32) {h : PH} : F_X11_isPatience a h = some (if wth a 1 60 = true then 1 else 0, h) := by
  unfold F_X11_isPatience F_X11_isPatience_b15 wth
  by_cases h1 : a < 1
  · rw [if_pos h1, if_neg (by simp; intro q; exact absurd h1 (Int32.not_lt.mpr q))]
  · rw [if_neg h1]
    by_cases h2 : 60 < a
    · rw [if_pos h2, if_neg (by simp; intro _; exact h2)]
    · rw [if_neg h2, if_pos (by simp; exact ⟨Int32.not_lt.mp h1, Int32.not_lt.mp h2⟩)]
theorem wth_pat {a : Int32} (h : wth a 1 60 = true) : ∃ p, 1 ≤ p ∧ p ≤ 60 ∧ a = nI p := by
  obtain ⟨h1, h2⟩ := of_decide_eq_true h
  obtain ⟨k, hk, rfl⟩ := nI_of (x := a) (Int32.not_lt.mpr (Int32.le_trans (by decide : (0 : Int32) ≤ 1) h1))
  exact ⟨k, (l_le_n 1 hk (by omega)).mp h1, (n_le_l 60 hk (by omega)).mp h2, rfl⟩
theorem u0 {h : PH} (u : AuM F T h) : AuM F T (hs h 103 0 0) := AuM_q u (fun a b z => by
  rw [hs_1]
  by_cases y : a = 103
  · rw [if_pos y, if_neg (by omega)]
  · rw [if_neg y])
theorem z0 (k : PH) : fq GtS GvK k (hs k 103 0 0) := fq_s fq_0 (Or.inr (by decide))
theorem P_forgets {h : PH} (hN : 5000 ≤ N) (hF0 : 0 < F) (hF : F ≤ 6) (L : LnT T nv h) (C : HC F h) (M : HM F h) (A : AtC F T h) (U : AuM F T h) (a b c : Int32) : ∃ r h1 h2, F_X11_forgets N a b c h = some (r, h1) ∧ F_X12_forgets N a b c h1 = some (r, h2) ∧ AtC F T h2 ∧ AuM F T h2 ∧ AtW F T h h2 ∧ fq NvS NvK h h2 := by
  have G := qAll_G (T := T) hF0
  have M0 : HM F (hs h 103 0 0) := HM_nv M (gv_n (z0 h))
  have c3 : ∀ (x y : Option (Int32 × PH)), (if c < 0 then x else if c ≤ 1 then y else x) = if wth c 0 1 = true then y else x := by
    intro x y
    unfold wth
    by_cases h1 : c < 0
    · rw [if_pos h1, if_neg (by simp; intro q; exact absurd h1 (Int32.not_lt.mpr q))]
    · rw [if_neg h1]
      by_cases h2 : c ≤ 1
      · rw [if_pos h2, if_pos (by simp; exact ⟨Int32.not_lt.mp h1, h2⟩)]
      · rw [if_neg h2, if_neg (by simp; intro _; exact Int32.not_le.mp h2)]
  have ref : ∀ (h' : PH), F_X11_forgets N a b c h = some (-1, h) → F_X12_forgets N a b c h = some (-1, hs h 103 0 0) → ∃ r h1 h2, F_X11_forgets N a b c h = some (r, h1) ∧ F_X12_forgets N a b c h1 = some (r, h2) ∧ AtC F T h2 ∧ AuM F T h2 ∧ AtW F T h h2 ∧ fq NvS NvK h h2 := fun _ e1 e2 => ⟨-1, h, hs h 103 0 0, e1, e2, AtC_gt A hF (z0 h), u0 U, AtW_0 hF, gv_n (z0 h)⟩
  by_cases g1 : isF F a = true
  · by_cases g2 : wth b 1 60 = true
    · by_cases g3 : wth c 0 1 = true
      · obtain ⟨f, hf, rfl⟩ := isF_n g1 (by omega)
        obtain ⟨p, hp1, hp, rfl⟩ := wth_pat g2
        obtain ⟨v, h1, e1, rfl, K1, f1⟩ := forgetter_x hN hF0 hF hf hp1 hp L C A
        have z1 := z0 h1
        have L1 := LnT_nv L (nvZ f1)
        have M1 := HM_nv M (fq_t (nvZ f1) (gv_n z1))
        obtain ⟨v2, h2, e2, rfl, K2, f2⟩ := forgotten_x (h := hs h1 103 0 0) hN hF0 hF hf hp1 hp (LnT_nv L1 (gv_n z1)) M1 (u0 (AuM_ez U f1))
        have f12 : fq GtS GvK h1 h2 := fq_t z1 (gv_k f2)
        have two : (∃ r, F_X11_forgets N (nI f) (nI p) c h = some (r, h1) ∧ F_X12_forgets N (nI f) (nI p) c h1 = some (r, h2)) → ∃ r k1 k2, F_X11_forgets N (nI f) (nI p) c h = some (r, k1) ∧ F_X12_forgets N (nI f) (nI p) c k1 = some (r, k2) ∧ AtC F T k2 ∧ AuM F T k2 ∧ AtW F T h k2 ∧ fq NvS NvK h k2 := fun ⟨r, y1, y2⟩ => ⟨r, h1, h2, y1, y2, AtC_gt (Or.inr K1) hF f12, Or.inr K2, AtW_1 hF K1 K2 f12, fq_t (nvZ f1) (gv_n f12)⟩
        apply two
        unfold F_X11_forgets F_X12_forgets
        rw [isFloorC_x C, bI_s, if_pos g1, if_neg one10, isPat_x, bI_s, if_pos g2, if_neg one10, c3, if_pos g3, e1, bI_s, hb_e, isFloorM_x M1, bI_s, if_pos g1, if_neg one10, within_x, bI_s, if_pos g2, if_neg one10, within_x, bI_s, if_pos g3, if_neg one10, e2, bI_s]
        rcases (wth01 c).mp g3 with rfl | rfl
        · rw [if_pos rfl, if_pos rfl]
          unfold fOr
          by_cases y : fgN F T f p < (qAll F T).length
          · have ml := ms_lt (G.1.1 _ y) hF
            rw [if_pos y, if_neg (n_eq_m1 (by have := QD_le G.1 hF; omega)), if_pos y, if_pos (nI_pos' (by omega))]
            exact ⟨_, rfl, rfl⟩
          · rw [if_neg y, if_pos rfl, if_neg y, if_neg (by decide)]
            exact ⟨_, rfl, rfl⟩
        · rw [if_neg (by decide), if_neg (by decide), rowl_x hF G K1.2.1, bI_s]
          by_cases y : fgN F T f p < (qAll F T).length
          · have ml := ms_lt (G.1.1 _ y) hF
            rw [if_pos y, if_pos y, if_pos (nI_pos' (by omega)), if_pos (nI_in0 ml (by omega)), nI_clamp (by omega), (K2.2.1.2.1 _ y).2.2.2.1]
            exact ⟨_, rfl, rfl⟩
          · rw [if_neg y, if_neg y, if_neg (by decide)]
            exact ⟨_, rfl, rfl⟩
      · apply ref h
        · unfold F_X11_forgets
          rw [isFloorC_x C, bI_s, if_pos g1, if_neg one10, isPat_x, bI_s, if_pos g2, if_neg one10, c3, if_neg g3]
        · unfold F_X12_forgets
          rw [hb_e, isFloorM_x M0, bI_s, if_pos g1, if_neg one10, within_x, bI_s, if_pos g2, if_neg one10, within_x, bI_s, if_neg g3, if_pos rfl]
    · apply ref h
      · unfold F_X11_forgets
        rw [isFloorC_x C, bI_s, if_pos g1, if_neg one10, isPat_x, bI_s, if_neg g2, if_pos rfl]
      · unfold F_X12_forgets
        rw [hb_e, isFloorM_x M0, bI_s, if_pos g1, if_neg one10, within_x, bI_s, if_neg g2, if_pos rfl]
  · apply ref h
    · unfold F_X11_forgets
      rw [isFloorC_x C, bI_s, if_neg g1, if_pos rfl]
    · unfold F_X12_forgets
      rw [hb_e, isFloorM_x M0, bI_s, if_neg g1, if_pos rfl]
theorem P_forgetsRow {h : PH} (hN : 5000 ≤ N) (hF0 : 0 < F) (hF : F ≤ 6) (L : LnT T nv h) (C : HC F h) (M : HM F h) (A : AtC F T h) (U : AuM F T h) (a b c : Int32) : ∃ r h1 h2, F_X11_forgetsRow N a b c h = some (r, h1) ∧ F_X12_forgetsRow N a b c h1 = some (r, h2) ∧ AtC F T h2 ∧ AuM F T h2 ∧ AtW F T h h2 ∧ fq NvS NvK h h2 := by
  have G := qAll_G (T := T) hF0
  have M0 : HM F (hs h 103 0 0) := HM_nv M (gv_n (z0 h))
  by_cases g1 : isF F a = true
  · by_cases g2 : wth b 1 60 = true
    · obtain ⟨f, hf, rfl⟩ := isF_n g1 (by omega)
      obtain ⟨p, hp1, hp, rfl⟩ := wth_pat g2
      obtain ⟨v, h1, e1, rfl, K1, f1⟩ := forgetter_x hN hF0 hF hf hp1 hp L C A
      have z1 := z0 h1
      have L1 := LnT_nv L (nvZ f1)
      have M1 := HM_nv M (fq_t (nvZ f1) (gv_n z1))
      obtain ⟨v2, h2, e2, rfl, K2, f2⟩ := forgotten_x (h := hs h1 103 0 0) hN hF0 hF hf hp1 hp (LnT_nv L1 (gv_n z1)) M1 (u0 (AuM_ez U f1))
      have f12 : fq GtS GvK h1 h2 := fq_t z1 (gv_k f2)
      obtain ⟨x, ex1, ex2⟩ := rows_x hN hF G K1.2.1 K2.2.1 (fgN F T f p) c
      refine ⟨x, h1, h2, ?_, ?_, AtC_gt (Or.inr K1) hF f12, Or.inr K2, AtW_1 hF K1 K2 f12, fq_t (nvZ f1) (gv_n f12)⟩
      · unfold F_X11_forgetsRow
        rw [isFloorC_x C, bI_s, if_pos g1, if_neg one10, isPat_x, bI_s, if_pos g2, if_neg one10, e1, bI_s, ex1, bI_s]
      · unfold F_X12_forgetsRow
        rw [hb_e, isFloorM_x M1, bI_s, if_pos g1, if_neg one10, within_x, bI_s, if_pos g2, if_neg one10, e2, bI_s, ex2, bI_s]
    · refine ⟨-1, h, hs h 103 0 0, ?_, ?_, AtC_gt A hF (z0 h), u0 U, AtW_0 hF, gv_n (z0 h)⟩
      · unfold F_X11_forgetsRow
        rw [isFloorC_x C, bI_s, if_pos g1, if_neg one10, isPat_x, bI_s, if_neg g2, if_pos rfl]
      · unfold F_X12_forgetsRow F_X12_forgetsRow_b37
        rw [hb_e, isFloorM_x M0, bI_s, if_pos g1, if_neg one10, within_x, bI_s, if_neg g2, if_pos rfl]
  · refine ⟨-1, h, hs h 103 0 0, ?_, ?_, AtC_gt A hF (z0 h), u0 U, AtW_0 hF, gv_n (z0 h)⟩
    · unfold F_X11_forgetsRow
      rw [isFloorC_x C, bI_s, if_neg g1, if_pos rfl]
    · unfold F_X12_forgetsRow F_X12_forgetsRow_b37
      rw [hb_e, isFloorM_x M0, bI_s, if_neg g1, if_pos rfl]
end
