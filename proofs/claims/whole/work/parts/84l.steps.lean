/-! one call more: all that is kept goes on -/
def Inv (B : Nat) (h : PH) : Prop := ∃ (F : Nat) (T : Nat → Int32 → Bool) (nv : Nat), 2 ≤ F ∧ F ≤ 6 ∧ HC F h ∧ HM F h ∧ TI h ∧ RI h ∧ LnT T nv h ∧ NwI F h ∧ AtC F T h ∧ AuM F T h ∧ GsI F T h ∧ PlI F h ∧ RuI h ∧ RdI h ∧ ChI h ∧ StN (3000000 * B) h ∧ TgI B h
section
variable {F N nv B : Nat} {T : Nat → Int32 → Bool} {h h' h2 : PH}
theorem k_C (i : HC F h) (e : ∀ a b, a = 14 ∧ b = 1 → h'.1 a b = h.1 a b) : HC F h' := by unfold HC; rw [e 14 1 ⟨rfl, rfl⟩]; exact i
theorem k_M (i : HM F h) (e : ∀ a b, a = 103 ∧ b = 1 → h'.1 a b = h.1 a b) : HM F h' := by unfold HM; rw [e 103 1 ⟨rfl, rfl⟩]; exact i
theorem k_T (i : TI h) (e : ∀ a b, (a = 1 ∧ b = 1) ∨ a = 2 ∨ (a = 103 ∧ b = 2) ∨ a = 104 → h'.1 a b = h.1 a b) : TI h' := by
  obtain ⟨q, t1, t2, t3⟩ := i
  exact ⟨q, t1, ⟨by rw [e 1 1 (by omega)]; exact t2.1, fun i hi => by rw [e 2 i (by omega)]; exact t2.2 i hi⟩, ⟨by rw [e 103 2 (by omega)]; exact t3.1, fun i hi => by rw [e 104 i (by omega)]; exact t3.2 i hi⟩⟩
theorem k_R (i : RI h) (e : ∀ a b, (99 ≤ a ∧ a ≤ 102) ∨ (150 ≤ a ∧ a ≤ 152) ∨ (a = 103 ∧ (b = 75 ∨ b = 79 ∨ b = 80 ∨ b = 81)) → h'.1 a b = h.1 a b) : RI h' := RI_c (fun k j z => e k j (by simp [RI_S, RI_K] at z; omega)) i
theorem k_L (i : LnT T nv h) (e : ∀ a b, (a = 15 ∧ b = 1) ∨ (16 ≤ a ∧ a ≤ 19) ∨ (105 ≤ a ∧ a ≤ 107 ∧ b < 25) ∨ (a = 111 ∧ b < 1000) → h'.1 a b = h.1 a b) : LnT T nv h' := LnT_q i (fun a b z => e a b z)
theorem k_W (i : NwI F h) (e : ∀ a b, (a = 14 ∧ 2 ≤ b ∧ b ≤ 4) ∨ (a = 103 ∧ 33 ≤ b ∧ b ≤ 35) → h'.1 a b = h.1 a b) : NwI F h' := NwI_q i e
theorem k_A (hF : F ≤ 6) (i : AtC F T h) (e : ∀ a b, (a = 21 ∧ (b = 12 ∨ b = 13)) ∨ a = 22 ∨ (24 ≤ a ∧ a ≤ 36) → h'.1 a b = h.1 a b) : AtC F T h' := AtC_q i hF e
theorem k_U (i : AuM F T h) (e : ∀ a b, (a = 103 ∧ (b = 37 ∨ b = 38)) ∨ (124 ≤ a ∧ a ≤ 130) → h'.1 a b = h.1 a b) : AuM F T h' := AuM_q i e
theorem k_G (hF0 : 2 ≤ F) (hF : F ≤ 6) (i : GsI F T h) (e : ∀ a b, (a = 21 ∧ (b = 12 ∨ b = 13)) ∨ a = 22 ∨ (24 ≤ a ∧ a ≤ 36) ∨ (a = 39 ∧ b ≤ 12) ∨ a = 42 ∨ (a = 103 ∧ (b = 37 ∨ b = 38 ∨ b = 46)) ∨ (124 ≤ a ∧ a ≤ 130) ∨ (a = 131 ∧ b < 3072) ∨ (a = 132 ∧ b = 0) → h'.1 a b = h.1 a b) : GsI F T h' := GsI_q hF (by omega) i (fun a b z => e a b z)
theorem k_GW (hF0 : 2 ≤ F) (hF : F ≤ 6) (i : GsI F T h) (w : AtW F T h h') (e : ∀ a b, (a = 39 ∧ b ≤ 12) ∨ a = 42 ∨ (a = 103 ∧ b = 46) ∨ (a = 131 ∧ b < 3072) ∨ (a = 132 ∧ b = 0) → h'.1 a b = h.1 a b) : GsI F T h' := by
  rcases i with ⟨z1, z2⟩ | ⟨D, a1, a2, a3, a4, a5, a6, a7, a8⟩
  · exact Or.inl ⟨by rw [e 39 0 (by omega)]; exact z1, by rw [e 103 46 (by omega)]; exact z2⟩
  · have dl := HdD_le a5
    have ql := QD_le (qAll_G (T := T) (show 0 < F by omega)).1 hF
    refine Or.inr ⟨D, by rw [e 39 0 (by omega)]; exact a1, by rw [e 103 46 (by omega)]; exact a2, w.1 a3, w.2 a4, a5, ⟨by rw [e 39 1 (by omega)]; exact a6.1, fun t ht => by rw [e 42 t (by omega)]; exact a6.2 t ht⟩, ⟨by rw [e 132 0 (by omega)]; exact a7.1, fun t ht => by rw [e 131 (0 + t) (by omega)]; exact a7.2 t ht⟩, ?_⟩
    rw [e 39 12 (by omega), e 39 2 (by omega), e 39 3 (by omega)]
    exact a8
theorem k_P (i : PlI F h) (e : ∀ a b, (a = 51 ∧ 7 ≤ b ∧ b ≤ 14) ∨ (52 ≤ a ∧ a ≤ 57) ∨ (a = 103 ∧ 53 ≤ b ∧ b ≤ 65) ∨ (136 ≤ a ∧ a ≤ 141) → h'.1 a b = h.1 a b) : PlI F h' := by
  obtain ⟨⟨c, z, d, p, pc⟩, ⟨n, tm, fm, to, pp⟩, ⟨n2, t2, c2, k2, ph⟩, ⟨f, pf⟩⟩ := i
  exact ⟨⟨c, z, d, p, PlC_q pc (fun a b q => e a b (by omega))⟩, ⟨n, tm, fm, to, PlP_q pp (fun a b q => e a b (by omega))⟩, ⟨n2, t2, c2, k2, PlH_q ph (fun a b q => e a b (by omega))⟩, ⟨f, PlF_q pf (fun a b q => e a b (by omega))⟩⟩
theorem k_Y (i : RuI h) (e : ∀ a b, (60 ≤ a ∧ a ≤ 62) ∨ (a = 103 ∧ b = 20) ∨ ((a = 106 ∨ a = 107) ∧ b = 25) ∨ (a = 111 ∧ 1000 ≤ b ∧ b < 2000) → h'.1 a b = h.1 a b) : RuI h' := by
  obtain ⟨E, C, b, i⟩ := i
  have c : ∀ k, 60 ≤ k → k ≤ 62 → h'.1 k = h.1 k := fun k q1 q2 => funext (fun b => e k b (by omega))
  refine ⟨E, C, b, ?_⟩
  by_cases g : b = true
  · rw [if_pos g] at i ⊢
    obtain ⟨r1, r2, r3, r4, r5, r6, r7⟩ := i
    exact ⟨r1, lnC_e (o := 58) (c 60 (by omega) (by omega)) (c 61 (by omega) (by omega)) (c 62 (by omega) (by omega)) r2, by rw [e 103 20 (by omega)]; exact r3, by rw [e 106 25 (by omega)]; exact r4, by rw [e 107 25 (by omega)]; exact r5, r6, fun t ht => by rw [e 111 _ (by omega)]; exact r7 t ht⟩
  · rw [if_neg g] at i ⊢
    exact ⟨lnC_e (o := 58) (c 60 (by omega) (by omega)) (c 61 (by omega) (by omega)) (c 62 (by omega) (by omega)) i.1, by rw [e 103 20 (by omega)]; exact i.2⟩
theorem k_D (i : RdI h) (e : ∀ a b, (a = 51 ∧ 7 ≤ b ∧ b ≤ 16) ∨ (52 ≤ a ∧ a ≤ 57) ∨ (60 ≤ a ∧ a ≤ 62) ∨ (64 ≤ a ∧ a ≤ 79) ∨ (a = 103 ∧ (b = 1 ∨ b = 20 ∨ (53 ≤ b ∧ b ≤ 65))) ∨ ((a = 106 ∨ a = 107) ∧ b = 25) ∨ (a = 111 ∧ 1000 ≤ b ∧ b < 2000) ∨ (136 ≤ a ∧ a ≤ 141) → h'.1 a b = h.1 a b) : RdI h' := RdI_q i (fun a b z => e a b (by unfold PlnP at z; omega))
theorem k_E (i : ChI h) (e : ∀ a b, (a = 51 ∧ 7 ≤ b ∧ b ≤ 15) ∨ (52 ≤ a ∧ a ≤ 57) ∨ (a = 80 ∧ b = 4) ∨ a = 81 ∨ a = 82 ∨ (a = 103 ∧ (b = 1 ∨ (53 ≤ b ∧ b ≤ 65))) ∨ (136 ≤ a ∧ a ≤ 141) → h'.1 a b = h.1 a b) : ChI h' := fun z => by
  rw [e 80 4 (by omega), e 51 15 (by omega)] at z
  obtain ⟨q', u', Ss, b1, b2, b3, b4, b5, b6, b7⟩ := i z
  exact ⟨q', u', Ss, b1, b2, b3, b4, PqC_q b5 (fun a b z => e a b (by omega)), PqM_q b6 (fun a b z => e a b (by omega)), fun a ha => by rw [e 81 a (by omega), e 82 a (by omega)]; exact b7 a ha⟩
theorem k_S (i : StN (3000000 * B) h) (e : ∀ a b, (a = 39 ∧ b = 13) ∨ a = 43 ∨ a = 40 ∨ (a = 103 ∧ b = 50) ∨ a = 133 ∨ a = 134 ∨ a = 135 → h'.1 a b = h.1 a b) : StN (3000000 * (B + 1)) h' := StN_w (StN_q i e) (by omega)
theorem k_N (i : TgI B h) (e : ∀ a b, (a = 51 ∧ (b = 15 ∨ b = 16)) ∨ (a = 64 ∧ b = 19) ∨ (a = 80 ∧ b = 4) → h'.1 a b = h.1 a b) : TgI (B + 1) h' := tg_K i (e 51 15 (by omega)) (e 51 16 (by omega)) (Or.inl (e 64 19 (by omega))) (Or.inl (e 80 4 (by omega)))
theorem S_trip (hN : 5000 ≤ N) (hB : B < 512) (I : Inv B h) (x : Int32) (y : Int32) (z : Int32) : ∃ r h1 h2, F_X11_trip x y z h = some (r, h1) ∧ F_X12_trip x y z h1 = some (r, h2) ∧ Inv (B + 1) h2 := by
  obtain ⟨F, T, nv, c2, c6, iC, iM, iT, iR, iL, iW, iA, iU, iG, iP, iY, iD, iE, iS, iN⟩ := I
  obtain ⟨r, h1, h2, e1, e2, g1, ff⟩ := P_trip c6 iC iM iR x y z
  have f : ∀ a b, ¬ ((99 ≤ a ∧ a ≤ 102) ∨ (150 ≤ a ∧ a ≤ 152) ∨ (a = 103 ∧ (b = 0 ∨ b = 75 ∨ b = 79 ∨ b = 80 ∨ b = 81))) → h2.1 a b = h.1 a b := fun a b z => ff a b (by simp [RI_S, RI_K] <;> omega) (by simp [RI_S, RI_K] <;> omega)
  exact ⟨r, h1, h2, e1, e2, ⟨F, T, nv, c2, c6, k_C iC (fun a b z => f a b (by omega)), k_M iM (fun a b z => f a b (by omega)), k_T iT (fun a b z => f a b (by omega)), g1, k_L iL (fun a b z => f a b (by omega)), k_W iW (fun a b z => f a b (by omega)), k_A c6 iA (fun a b z => f a b (by omega)), k_U iU (fun a b z => f a b (by omega)), k_G c2 c6 iG (fun a b z => f a b (by omega)), k_P iP (fun a b z => f a b (by omega)), k_Y iY (fun a b z => f a b (by omega)), k_D iD (fun a b z => f a b (by omega)), k_E iE (fun a b z => f a b (by omega)), k_S iS (fun a b z => f a b (by omega)), k_N iN (fun a b z => f a b (by omega))⟩⟩
theorem S_gauge (hN : 5000 ≤ N) (hB : B < 512) (I : Inv B h) (x : Int32) (y : Int32) : ∃ r h1 h2, F_X11_gauge x y h = some (r, h1) ∧ F_X12_gauge x y h1 = some (r, h2) ∧ Inv (B + 1) h2 := by
  obtain ⟨F, T, nv, c2, c6, iC, iM, iT, iR, iL, iW, iA, iU, iG, iP, iY, iD, iE, iS, iN⟩ := I
  obtain ⟨r, h1, h2, e1, e2, g1, ff⟩ := P_gauge iR x y
  have f : ∀ a b, ¬ ((99 ≤ a ∧ a ≤ 102) ∨ (150 ≤ a ∧ a ≤ 152) ∨ (a = 103 ∧ (b = 0 ∨ b = 75 ∨ b = 79 ∨ b = 80 ∨ b = 81))) → h2.1 a b = h.1 a b := fun a b z => ff a b (by simp [RI_S, RI_K] <;> omega) (by simp [RI_S, RI_K] <;> omega)
  exact ⟨r, h1, h2, e1, e2, ⟨F, T, nv, c2, c6, k_C iC (fun a b z => f a b (by omega)), k_M iM (fun a b z => f a b (by omega)), k_T iT (fun a b z => f a b (by omega)), g1, k_L iL (fun a b z => f a b (by omega)), k_W iW (fun a b z => f a b (by omega)), k_A c6 iA (fun a b z => f a b (by omega)), k_U iU (fun a b z => f a b (by omega)), k_G c2 c6 iG (fun a b z => f a b (by omega)), k_P iP (fun a b z => f a b (by omega)), k_Y iY (fun a b z => f a b (by omega)), k_D iD (fun a b z => f a b (by omega)), k_E iE (fun a b z => f a b (by omega)), k_S iS (fun a b z => f a b (by omega)), k_N iN (fun a b z => f a b (by omega))⟩⟩
theorem S_rope (hN : 5000 ≤ N) (hB : B < 512) (I : Inv B h) (x : Int32) (y : Int32) : ∃ r h1 h2, F_X11_rope N x y h = some (r, h1) ∧ F_X12_rope N x y h1 = some (r, h2) ∧ Inv (B + 1) h2 := by
  obtain ⟨F, T, nv, c2, c6, iC, iM, iT, iR, iL, iW, iA, iU, iG, iP, iY, iD, iE, iS, iN⟩ := I
  obtain ⟨r, e1, e2⟩ := P_rope (N := N) (by omega) c2 c6 iC iM iR x y
  have f : ∀ a b, ¬ (a = 103 ∧ b = 0) → (hs h 103 0 0).1 a b = h.1 a b := fun a b z => c103 z
  exact ⟨r, h, hs h 103 0 0, e1, e2, ⟨F, T, nv, c2, c6, k_C iC (fun a b z => f a b (by omega)), k_M iM (fun a b z => f a b (by omega)), k_T iT (fun a b z => f a b (by omega)), k_R iR (fun a b z => f a b (by omega)), k_L iL (fun a b z => f a b (by omega)), k_W iW (fun a b z => f a b (by omega)), k_A c6 iA (fun a b z => f a b (by omega)), k_U iU (fun a b z => f a b (by omega)), k_G c2 c6 iG (fun a b z => f a b (by omega)), k_P iP (fun a b z => f a b (by omega)), k_Y iY (fun a b z => f a b (by omega)), k_D iD (fun a b z => f a b (by omega)), k_E iE (fun a b z => f a b (by omega)), k_S iS (fun a b z => f a b (by omega)), k_N iN (fun a b z => f a b (by omega))⟩⟩
theorem S_first (hN : 5000 ≤ N) (hB : B < 512) (I : Inv B h) (x : Int32) : ∃ r h1 h2, F_X11_first N x h = some (r, h1) ∧ F_X12_first N x h1 = some (r, h2) ∧ Inv (B + 1) h2 := by
  obtain ⟨F, T, nv, c2, c6, iC, iM, iT, iR, iL, iW, iA, iU, iG, iP, iY, iD, iE, iS, iN⟩ := I
  obtain ⟨r, e1, e2⟩ := P_first (N := N) (by omega) c2 c6 iC iM iR x
  have f : ∀ a b, ¬ (a = 103 ∧ b = 0) → (hs h 103 0 0).1 a b = h.1 a b := fun a b z => c103 z
  exact ⟨r, h, hs h 103 0 0, e1, e2, ⟨F, T, nv, c2, c6, k_C iC (fun a b z => f a b (by omega)), k_M iM (fun a b z => f a b (by omega)), k_T iT (fun a b z => f a b (by omega)), k_R iR (fun a b z => f a b (by omega)), k_L iL (fun a b z => f a b (by omega)), k_W iW (fun a b z => f a b (by omega)), k_A c6 iA (fun a b z => f a b (by omega)), k_U iU (fun a b z => f a b (by omega)), k_G c2 c6 iG (fun a b z => f a b (by omega)), k_P iP (fun a b z => f a b (by omega)), k_Y iY (fun a b z => f a b (by omega)), k_D iD (fun a b z => f a b (by omega)), k_E iE (fun a b z => f a b (by omega)), k_S iS (fun a b z => f a b (by omega)), k_N iN (fun a b z => f a b (by omega))⟩⟩
theorem S_lasts (hN : 5000 ≤ N) (hB : B < 512) (I : Inv B h) (x : Int32) (y : Int32) : ∃ r h1 h2, F_X11_lasts N x y h = some (r, h1) ∧ F_X12_lasts N x y h1 = some (r, h2) ∧ Inv (B + 1) h2 := by
  obtain ⟨F, T, nv, c2, c6, iC, iM, iT, iR, iL, iW, iA, iU, iG, iP, iY, iD, iE, iS, iN⟩ := I
  obtain ⟨r, e1, e2⟩ := P_lasts (N := N) (by omega) c2 c6 iC iM iR x y
  have f : ∀ a b, ¬ (a = 103 ∧ b = 0) → (hs h 103 0 0).1 a b = h.1 a b := fun a b z => c103 z
  exact ⟨r, h, hs h 103 0 0, e1, e2, ⟨F, T, nv, c2, c6, k_C iC (fun a b z => f a b (by omega)), k_M iM (fun a b z => f a b (by omega)), k_T iT (fun a b z => f a b (by omega)), k_R iR (fun a b z => f a b (by omega)), k_L iL (fun a b z => f a b (by omega)), k_W iW (fun a b z => f a b (by omega)), k_A c6 iA (fun a b z => f a b (by omega)), k_U iU (fun a b z => f a b (by omega)), k_G c2 c6 iG (fun a b z => f a b (by omega)), k_P iP (fun a b z => f a b (by omega)), k_Y iY (fun a b z => f a b (by omega)), k_D iD (fun a b z => f a b (by omega)), k_E iE (fun a b z => f a b (by omega)), k_S iS (fun a b z => f a b (by omega)), k_N iN (fun a b z => f a b (by omega))⟩⟩
theorem S_feed (hN : 5000 ≤ N) (hB : B < 512) (I : Inv B h) (x : Int64) (y : Int64) (z : Int64) : ∃ r h1 h2, F_X11_feed N x y z h = some (r, h1) ∧ F_X12_feed N x y z h1 = some (r, h2) ∧ Inv (B + 1) h2 := by
  obtain ⟨F, T, nv, c2, c6, iC, iM, iT, iR, iL, iW, iA, iU, iG, iP, iY, iD, iE, iS, iN⟩ := I
  obtain ⟨r, h1, h2, e1, e2, g1, ff⟩ := P_feed (N := N) (by omega) iT x y z
  have f : ∀ a b, ¬ (a = 1 ∨ a = 2 ∨ a = 104 ∨ (a = 103 ∧ (b = 0 ∨ b = 2))) → h2.1 a b = h.1 a b := fun a b z => ff a b (by simp <;> omega) (by simp <;> omega)
  exact ⟨r, h1, h2, e1, e2, ⟨F, T, nv, c2, c6, k_C iC (fun a b z => f a b (by omega)), k_M iM (fun a b z => f a b (by omega)), g1, k_R iR (fun a b z => f a b (by omega)), k_L iL (fun a b z => f a b (by omega)), k_W iW (fun a b z => f a b (by omega)), k_A c6 iA (fun a b z => f a b (by omega)), k_U iU (fun a b z => f a b (by omega)), k_G c2 c6 iG (fun a b z => f a b (by omega)), k_P iP (fun a b z => f a b (by omega)), k_Y iY (fun a b z => f a b (by omega)), k_D iD (fun a b z => f a b (by omega)), k_E iE (fun a b z => f a b (by omega)), k_S iS (fun a b z => f a b (by omega)), k_N iN (fun a b z => f a b (by omega))⟩⟩
theorem S_press (hN : 5000 ≤ N) (hB : B < 512) (I : Inv B h) (x : Int32) : ∃ r h1 h2, F_X11_press N x h = some (r, h1) ∧ F_X12_press N x h1 = some (r, h2) ∧ Inv (B + 1) h2 := by
  obtain ⟨F, T, nv, c2, c6, iC, iM, iT, iR, iL, iW, iA, iU, iG, iP, iY, iD, iE, iS, iN⟩ := I
  obtain ⟨r, h1, h2, e1, e2, g1, ff⟩ := P_press hN c6 iC iM iL iW x
  have f : ∀ a b, ¬ (a = 20 ∨ (114 ≤ a ∧ a ≤ 123) ∨ (a = 14 ∧ 2 ≤ b ∧ b ≤ 4) ∨ (a = 103 ∧ (b = 0 ∨ (33 ≤ b ∧ b ≤ 36)))) → h2.1 a b = h.1 a b := fun a b z => ff a b (by simp [PrS, PrK, MvS] <;> omega) (by simp [PrS, PrK, MvS] <;> omega)
  exact ⟨r, h1, h2, e1, e2, ⟨F, T, nv, c2, c6, k_C iC (fun a b z => f a b (by omega)), k_M iM (fun a b z => f a b (by omega)), k_T iT (fun a b z => f a b (by omega)), k_R iR (fun a b z => f a b (by omega)), k_L iL (fun a b z => f a b (by omega)), g1, k_A c6 iA (fun a b z => f a b (by omega)), k_U iU (fun a b z => f a b (by omega)), k_G c2 c6 iG (fun a b z => f a b (by omega)), k_P iP (fun a b z => f a b (by omega)), k_Y iY (fun a b z => f a b (by omega)), k_D iD (fun a b z => f a b (by omega)), k_E iE (fun a b z => f a b (by omega)), k_S iS (fun a b z => f a b (by omega)), k_N iN (fun a b z => f a b (by omega))⟩⟩
theorem S_again (hN : 5000 ≤ N) (hB : B < 512) (I : Inv B h) : ∃ r h1 h2, F_X11_again h = some (r, h1) ∧ F_X12_again h1 = some (r, h2) ∧ Inv (B + 1) h2 := by
  obtain ⟨F, T, nv, c2, c6, iC, iM, iT, iR, iL, iW, iA, iU, iG, iP, iY, iD, iE, iS, iN⟩ := I
  obtain ⟨r, h1, h2, e1, e2, g1, ff⟩ := P_again (F := F) (h := h) (by omega)
  have f : ∀ a b, ¬ (a = 20 ∨ (114 ≤ a ∧ a ≤ 123) ∨ (a = 14 ∧ 2 ≤ b ∧ b ≤ 4) ∨ (a = 103 ∧ (b = 0 ∨ (33 ≤ b ∧ b ≤ 36)))) → h2.1 a b = h.1 a b := fun a b z => ff a b (by simp [PrS, PrK, MvS] <;> omega) (by simp [PrS, PrK, MvS] <;> omega)
  exact ⟨r, h1, h2, e1, e2, ⟨F, T, nv, c2, c6, k_C iC (fun a b z => f a b (by omega)), k_M iM (fun a b z => f a b (by omega)), k_T iT (fun a b z => f a b (by omega)), k_R iR (fun a b z => f a b (by omega)), k_L iL (fun a b z => f a b (by omega)), g1, k_A c6 iA (fun a b z => f a b (by omega)), k_U iU (fun a b z => f a b (by omega)), k_G c2 c6 iG (fun a b z => f a b (by omega)), k_P iP (fun a b z => f a b (by omega)), k_Y iY (fun a b z => f a b (by omega)), k_D iD (fun a b z => f a b (by omega)), k_E iE (fun a b z => f a b (by omega)), k_S iS (fun a b z => f a b (by omega)), k_N iN (fun a b z => f a b (by omega))⟩⟩
theorem S_never (hN : 5000 ≤ N) (hB : B < 512) (I : Inv B h) (x : Int32) (y : Int32) : ∃ r h1 h2, F_X11_never N x y h = some (r, h1) ∧ F_X12_never N x y h1 = some (r, h2) ∧ Inv (B + 1) h2 := by
  obtain ⟨F, T, nv, c2, c6, iC, iM, iT, iR, iL, iW, iA, iU, iG, iP, iY, iD, iE, iS, iN⟩ := I
  obtain ⟨r, h1, h2, e1, e2, g1, g2, g3, ff⟩ := P_never hN (by omega) c6 iL iC iM iA iU x y
  have f : ∀ a b, ¬ (a = 20 ∨ a = 22 ∨ (24 ≤ a ∧ a ≤ 38) ∨ (114 ≤ a ∧ a ≤ 130) ∨ (a = 21 ∧ (b = 12 ∨ b = 13)) ∨ (a = 103 ∧ (b = 0 ∨ b = 36 ∨ b = 37 ∨ b = 38))) → h2.1 a b = h.1 a b := fun a b z => ff a b (by simp [NvS, NvK, EyS, ExS, FdS, GtS, MtS, MvS, ExK, FdK, GtK, MtK] <;> omega) (by simp [NvS, NvK, EyS, ExS, FdS, GtS, MtS, MvS, ExK, FdK, GtK, MtK] <;> omega)
  exact ⟨r, h1, h2, e1, e2, ⟨F, T, nv, c2, c6, k_C iC (fun a b z => f a b (by omega)), k_M iM (fun a b z => f a b (by omega)), k_T iT (fun a b z => f a b (by omega)), k_R iR (fun a b z => f a b (by omega)), k_L iL (fun a b z => f a b (by omega)), k_W iW (fun a b z => f a b (by omega)), g1, g2, k_GW c2 c6 iG g3 (fun a b z => f a b (by omega)), k_P iP (fun a b z => f a b (by omega)), k_Y iY (fun a b z => f a b (by omega)), k_D iD (fun a b z => f a b (by omega)), k_E iE (fun a b z => f a b (by omega)), k_S iS (fun a b z => f a b (by omega)), k_N iN (fun a b z => f a b (by omega))⟩⟩
theorem S_neverRow (hN : 5000 ≤ N) (hB : B < 512) (I : Inv B h) (x : Int32) (y : Int32) : ∃ r h1 h2, F_X11_neverRow N x y h = some (r, h1) ∧ F_X12_neverRow N x y h1 = some (r, h2) ∧ Inv (B + 1) h2 := by
  obtain ⟨F, T, nv, c2, c6, iC, iM, iT, iR, iL, iW, iA, iU, iG, iP, iY, iD, iE, iS, iN⟩ := I
  obtain ⟨r, h1, h2, e1, e2, g1, g2, g3, ff⟩ := P_neverRow hN (by omega) c6 iL iC iM iA iU x y
  have f : ∀ a b, ¬ (a = 20 ∨ a = 22 ∨ (24 ≤ a ∧ a ≤ 38) ∨ (114 ≤ a ∧ a ≤ 130) ∨ (a = 21 ∧ (b = 12 ∨ b = 13)) ∨ (a = 103 ∧ (b = 0 ∨ b = 36 ∨ b = 37 ∨ b = 38))) → h2.1 a b = h.1 a b := fun a b z => ff a b (by simp [NvS, NvK, EyS, ExS, FdS, GtS, MtS, MvS, ExK, FdK, GtK, MtK] <;> omega) (by simp [NvS, NvK, EyS, ExS, FdS, GtS, MtS, MvS, ExK, FdK, GtK, MtK] <;> omega)
  exact ⟨r, h1, h2, e1, e2, ⟨F, T, nv, c2, c6, k_C iC (fun a b z => f a b (by omega)), k_M iM (fun a b z => f a b (by omega)), k_T iT (fun a b z => f a b (by omega)), k_R iR (fun a b z => f a b (by omega)), k_L iL (fun a b z => f a b (by omega)), k_W iW (fun a b z => f a b (by omega)), g1, g2, k_GW c2 c6 iG g3 (fun a b z => f a b (by omega)), k_P iP (fun a b z => f a b (by omega)), k_Y iY (fun a b z => f a b (by omega)), k_D iD (fun a b z => f a b (by omega)), k_E iE (fun a b z => f a b (by omega)), k_S iS (fun a b z => f a b (by omega)), k_N iN (fun a b z => f a b (by omega))⟩⟩
theorem S_forgets (hN : 5000 ≤ N) (hB : B < 512) (I : Inv B h) (x : Int32) (y : Int32) (z : Int32) : ∃ r h1 h2, F_X11_forgets N x y z h = some (r, h1) ∧ F_X12_forgets N x y z h1 = some (r, h2) ∧ Inv (B + 1) h2 := by
  obtain ⟨F, T, nv, c2, c6, iC, iM, iT, iR, iL, iW, iA, iU, iG, iP, iY, iD, iE, iS, iN⟩ := I
  obtain ⟨r, h1, h2, e1, e2, g1, g2, g3, ff⟩ := P_forgets hN (by omega) c6 iL iC iM iA iU x y z
  have f : ∀ a b, ¬ (a = 20 ∨ a = 22 ∨ (24 ≤ a ∧ a ≤ 38) ∨ (114 ≤ a ∧ a ≤ 130) ∨ (a = 21 ∧ (b = 12 ∨ b = 13)) ∨ (a = 103 ∧ (b = 0 ∨ b = 36 ∨ b = 37 ∨ b = 38))) → h2.1 a b = h.1 a b := fun a b z => ff a b (by simp [NvS, NvK, EyS, ExS, FdS, GtS, MtS, MvS, ExK, FdK, GtK, MtK] <;> omega) (by simp [NvS, NvK, EyS, ExS, FdS, GtS, MtS, MvS, ExK, FdK, GtK, MtK] <;> omega)
  exact ⟨r, h1, h2, e1, e2, ⟨F, T, nv, c2, c6, k_C iC (fun a b z => f a b (by omega)), k_M iM (fun a b z => f a b (by omega)), k_T iT (fun a b z => f a b (by omega)), k_R iR (fun a b z => f a b (by omega)), k_L iL (fun a b z => f a b (by omega)), k_W iW (fun a b z => f a b (by omega)), g1, g2, k_GW c2 c6 iG g3 (fun a b z => f a b (by omega)), k_P iP (fun a b z => f a b (by omega)), k_Y iY (fun a b z => f a b (by omega)), k_D iD (fun a b z => f a b (by omega)), k_E iE (fun a b z => f a b (by omega)), k_S iS (fun a b z => f a b (by omega)), k_N iN (fun a b z => f a b (by omega))⟩⟩
theorem S_forgetsRow (hN : 5000 ≤ N) (hB : B < 512) (I : Inv B h) (x : Int32) (y : Int32) (z : Int32) : ∃ r h1 h2, F_X11_forgetsRow N x y z h = some (r, h1) ∧ F_X12_forgetsRow N x y z h1 = some (r, h2) ∧ Inv (B + 1) h2 := by
  obtain ⟨F, T, nv, c2, c6, iC, iM, iT, iR, iL, iW, iA, iU, iG, iP, iY, iD, iE, iS, iN⟩ := I
  obtain ⟨r, h1, h2, e1, e2, g1, g2, g3, ff⟩ := P_forgetsRow hN (by omega) c6 iL iC iM iA iU x y z
  have f : ∀ a b, ¬ (a = 20 ∨ a = 22 ∨ (24 ≤ a ∧ a ≤ 38) ∨ (114 ≤ a ∧ a ≤ 130) ∨ (a = 21 ∧ (b = 12 ∨ b = 13)) ∨ (a = 103 ∧ (b = 0 ∨ b = 36 ∨ b = 37 ∨ b = 38))) → h2.1 a b = h.1 a b := fun a b z => ff a b (by simp [NvS, NvK, EyS, ExS, FdS, GtS, MtS, MvS, ExK, FdK, GtK, MtK] <;> omega) (by simp [NvS, NvK, EyS, ExS, FdS, GtS, MtS, MvS, ExK, FdK, GtK, MtK] <;> omega)
  exact ⟨r, h1, h2, e1, e2, ⟨F, T, nv, c2, c6, k_C iC (fun a b z => f a b (by omega)), k_M iM (fun a b z => f a b (by omega)), k_T iT (fun a b z => f a b (by omega)), k_R iR (fun a b z => f a b (by omega)), k_L iL (fun a b z => f a b (by omega)), k_W iW (fun a b z => f a b (by omega)), g1, g2, k_GW c2 c6 iG g3 (fun a b z => f a b (by omega)), k_P iP (fun a b z => f a b (by omega)), k_Y iY (fun a b z => f a b (by omega)), k_D iD (fun a b z => f a b (by omega)), k_E iE (fun a b z => f a b (by omega)), k_S iS (fun a b z => f a b (by omega)), k_N iN (fun a b z => f a b (by omega))⟩⟩
theorem S_count (hN : 5000 ≤ N) (hB : B < 512) (I : Inv B h) (x : Int32) : ∃ r h1 h2, F_X11_count N x h = some (r, h1) ∧ F_X12_count N x h1 = some (r, h2) ∧ Inv (B + 1) h2 := by
  obtain ⟨F, T, nv, c2, c6, iC, iM, iT, iR, iL, iW, iA, iU, iG, iP, iY, iD, iE, iS, iN⟩ := I
  obtain ⟨r, h1, h2, e1, e2, g1, g2, g3, ff⟩ := P_count hN (by omega) c6 iC iM iT iR iL iA iU iP x
  have f : ∀ a b, ¬ (a = 20 ∨ a = 22 ∨ (24 ≤ a ∧ a ≤ 38) ∨ (114 ≤ a ∧ a ≤ 130) ∨ (a = 21 ∧ (b = 12 ∨ b = 13)) ∨ (a = 103 ∧ (b = 0 ∨ b = 36 ∨ b = 37 ∨ b = 38))) → h2.1 a b = h.1 a b := fun a b z => ff a b (by simp [NvS, NvK, EyS, ExS, FdS, GtS, MtS, MvS, ExK, FdK, GtK, MtK] <;> omega) (by simp [NvS, NvK, EyS, ExS, FdS, GtS, MtS, MvS, ExK, FdK, GtK, MtK] <;> omega)
  exact ⟨r, h1, h2, e1, e2, ⟨F, T, nv, c2, c6, k_C iC (fun a b z => f a b (by omega)), k_M iM (fun a b z => f a b (by omega)), k_T iT (fun a b z => f a b (by omega)), k_R iR (fun a b z => f a b (by omega)), k_L iL (fun a b z => f a b (by omega)), k_W iW (fun a b z => f a b (by omega)), g1, g2, k_GW c2 c6 iG g3 (fun a b z => f a b (by omega)), k_P iP (fun a b z => f a b (by omega)), k_Y iY (fun a b z => f a b (by omega)), k_D iD (fun a b z => f a b (by omega)), k_E iE (fun a b z => f a b (by omega)), k_S iS (fun a b z => f a b (by omega)), k_N iN (fun a b z => f a b (by omega))⟩⟩
theorem S_stuck (hN : 5000 ≤ N) (hB : B < 512) (I : Inv B h) (x : Int32) : ∃ r h1 h2, F_X11_stuck N x h = some (r, h1) ∧ F_X12_stuck N x h1 = some (r, h2) ∧ Inv (B + 1) h2 := by
  obtain ⟨F, T, nv, c2, c6, iC, iM, iT, iR, iL, iW, iA, iU, iG, iP, iY, iD, iE, iS, iN⟩ := I
  obtain ⟨r, h1, h2, e1, e2, g1, g2, g3, ff⟩ := P_stuck hN (by omega) c6 iL iC iM iA iU iG x
  have f : ∀ a b, ¬ (a = 20 ∨ a = 22 ∨ (24 ≤ a ∧ a ≤ 38) ∨ (114 ≤ a ∧ a ≤ 130) ∨ (a = 21 ∧ (b = 12 ∨ b = 13)) ∨ (a = 103 ∧ (b = 0 ∨ b = 36 ∨ b = 37 ∨ b = 38)) ∨ a = 42 ∨ a = 131 ∨ (a = 39 ∧ (b = 0 ∨ b = 1 ∨ b = 12)) ∨ (a = 103 ∧ b = 46) ∨ (a = 132 ∧ b = 0)) → h2.1 a b = h.1 a b := fun a b z => ff a b (by simp [SkS, SkK, NvS, NvK, EyS, ExS, FdS, GtS, MtS, MvS, ExK, FdK, GtK, MtK] <;> omega) (by simp [SkS, SkK, NvS, NvK, EyS, ExS, FdS, GtS, MtS, MvS, ExK, FdK, GtK, MtK] <;> omega)
  exact ⟨r, h1, h2, e1, e2, ⟨F, T, nv, c2, c6, k_C iC (fun a b z => f a b (by omega)), k_M iM (fun a b z => f a b (by omega)), k_T iT (fun a b z => f a b (by omega)), k_R iR (fun a b z => f a b (by omega)), k_L iL (fun a b z => f a b (by omega)), k_W iW (fun a b z => f a b (by omega)), g1, g2, g3, k_P iP (fun a b z => f a b (by omega)), k_Y iY (fun a b z => f a b (by omega)), k_D iD (fun a b z => f a b (by omega)), k_E iE (fun a b z => f a b (by omega)), k_S iS (fun a b z => f a b (by omega)), k_N iN (fun a b z => f a b (by omega))⟩⟩
theorem S_tried (hN : 5000 ≤ N) (hB : B < 512) (I : Inv B h) (x : Int32) (y : Int32) : ∃ r h1 h2, F_X11_tried N x y h = some (r, h1) ∧ F_X12_tried N x y h1 = some (r, h2) ∧ Inv (B + 1) h2 := by
  obtain ⟨F, T, nv, c2, c6, iC, iM, iT, iR, iL, iW, iA, iU, iG, iP, iY, iD, iE, iS, iN⟩ := I
  obtain ⟨r, h1, h2, e1, e2, g1, g2, ff⟩ := P_tried hN (by omega) c6 (by omega) iC iM iG iS.1 x y
  have f : ∀ a b, ¬ (a = 42 ∨ a = 43 ∨ a = 131 ∨ a = 133 ∨ (a = 39 ∧ (b = 1 ∨ b = 12 ∨ b = 13)) ∨ (a = 103 ∧ (b = 0 ∨ b = 50)) ∨ (a = 132 ∧ (b = 0 ∨ b = 1))) → h2.1 a b = h.1 a b := fun a b z => ff a b (by simp [TrS, TrK] <;> omega) (by simp [TrS, TrK] <;> omega)
  exact ⟨r, h1, h2, e1, e2, ⟨F, T, nv, c2, c6, k_C iC (fun a b z => f a b (by omega)), k_M iM (fun a b z => f a b (by omega)), k_T iT (fun a b z => f a b (by omega)), k_R iR (fun a b z => f a b (by omega)), k_L iL (fun a b z => f a b (by omega)), k_W iW (fun a b z => f a b (by omega)), k_A c6 iA (fun a b z => f a b (by omega)), k_U iU (fun a b z => f a b (by omega)), g1, k_P iP (fun a b z => f a b (by omega)), k_Y iY (fun a b z => f a b (by omega)), k_D iD (fun a b z => f a b (by omega)), k_E iE (fun a b z => f a b (by omega)), StN_w (B := 3000000 * B + 1) ⟨g2, fun lv hl => by obtain ⟨K, a, b, c⟩ := iS.2 lv hl; exact ⟨K, by omega, by rw [f 135 lv (by omega)]; exact b, fun i hi => by rw [f 134 _ (by omega)]; exact c i hi⟩⟩ (by omega), k_N iN (fun a b z => f a b (by omega))⟩⟩
theorem S_thought (hN : 5000 ≤ N) (hB : B < 512) (I : Inv B h) (x : Int32) : ∃ r h1 h2, F_X11_thought N x h = some (r, h1) ∧ F_X12_thought N x h1 = some (r, h2) ∧ Inv (B + 1) h2 := by
  obtain ⟨F, T, nv, c2, c6, iC, iM, iT, iR, iL, iW, iA, iU, iG, iP, iY, iD, iE, iS, iN⟩ := I
  obtain ⟨r, h1, h2, e1, e2, g1, ff⟩ := P_thought hN (by omega) c6 iG x
  have f : ∀ a b, ¬ (a = 103 ∧ b = 0) → h2.1 a b = h.1 a b := fun a b z => ff a b (by simp <;> omega) (by simp <;> omega)
  exact ⟨r, h1, h2, e1, e2, ⟨F, T, nv, c2, c6, k_C iC (fun a b z => f a b (by omega)), k_M iM (fun a b z => f a b (by omega)), k_T iT (fun a b z => f a b (by omega)), k_R iR (fun a b z => f a b (by omega)), k_L iL (fun a b z => f a b (by omega)), k_W iW (fun a b z => f a b (by omega)), k_A c6 iA (fun a b z => f a b (by omega)), k_U iU (fun a b z => f a b (by omega)), g1, k_P iP (fun a b z => f a b (by omega)), k_Y iY (fun a b z => f a b (by omega)), k_D iD (fun a b z => f a b (by omega)), k_E iE (fun a b z => f a b (by omega)), k_S iS (fun a b z => f a b (by omega)), k_N iN (fun a b z => f a b (by omega))⟩⟩
theorem S_tests (hN : 5000 ≤ N) (hB : B < 512) (I : Inv B h) (x : Int32) : ∃ r h1 h2, F_X11_tests N x h = some (r, h1) ∧ F_X12_tests N x h1 = some (r, h2) ∧ Inv (B + 1) h2 := by
  obtain ⟨F, T, nv, c2, c6, iC, iM, iT, iR, iL, iW, iA, iU, iG, iP, iY, iD, iE, iS, iN⟩ := I
  obtain ⟨r, h1, h2, e1, e2, g1, g2, ff⟩ := P_tests hN (by omega) c6 (by omega) iC iM iG iS x
  have f : ∀ a b, ¬ (a = 40 ∨ a = 41 ∨ a = 43 ∨ a = 44 ∨ a = 46 ∨ a = 47 ∨ a = 49 ∨ a = 50 ∨ (a = 39 ∧ (b = 2 ∨ b = 3 ∨ b = 12 ∨ b = 13)) ∨ (a = 131 ∧ 3072 ≤ b) ∨ (a = 132 ∧ 1 ≤ b) ∨ a = 133 ∨ (a = 103 ∧ (b = 0 ∨ b = 50)) ∨ a = 134 ∨ a = 135) → h2.1 a b = h.1 a b := fun a b z => ff a b z
  exact ⟨r, h1, h2, e1, e2, ⟨F, T, nv, c2, c6, k_C iC (fun a b z => f a b (by omega)), k_M iM (fun a b z => f a b (by omega)), k_T iT (fun a b z => f a b (by omega)), k_R iR (fun a b z => f a b (by omega)), k_L iL (fun a b z => f a b (by omega)), k_W iW (fun a b z => f a b (by omega)), k_A c6 iA (fun a b z => f a b (by omega)), k_U iU (fun a b z => f a b (by omega)), g1, k_P iP (fun a b z => f a b (by omega)), k_Y iY (fun a b z => f a b (by omega)), k_D iD (fun a b z => f a b (by omega)), k_E iE (fun a b z => f a b (by omega)), StN_w g2 (by omega), k_N iN (fun a b z => f a b (by omega))⟩⟩
theorem S_nobody (hN : 5000 ≤ N) (hB : B < 512) (I : Inv B h) : ∃ r h1 h2, F_X11_nobody h = some (r, h1) ∧ F_X12_nobody h1 = some (r, h2) ∧ Inv (B + 1) h2 := by
  obtain ⟨F, T, nv, c2, c6, iC, iM, iT, iR, iL, iW, iA, iU, iG, iP, iY, iD, iE, iS, iN⟩ := I
  obtain ⟨r, h1, h2, e1, e2, g1, g2, ff⟩ := P_nobody iP
  have f : ∀ a b, ¬ ((a = 51 ∧ 12 ≤ b ∧ b ≤ 15) ∨ (a = 103 ∧ (b = 0 ∨ b = 57 ∨ b = 61 ∨ b = 65))) → h2.1 a b = h.1 a b := fun a b z => ff a b (by simp [NbK] <;> omega) (by simp [NbK] <;> omega)
  have ch : h2.1 51 15 = h.1 51 15 + 1 → Inv (B + 1) h2 := fun y => by
    obtain ⟨d1, d2, d3⟩ := tg_D iN (by omega) 1 (by omega) (by omega) (by rw [y]; exact Int32.add_comm _ _) (f 51 16 (by omega)) (f 64 19 (by omega)) (f 80 4 (by omega))
    exact ⟨F, T, nv, c2, c6, k_C iC (fun a b z => f a b (by omega)), k_M iM (fun a b z => f a b (by omega)), k_T iT (fun a b z => f a b (by omega)), k_R iR (fun a b z => f a b (by omega)), k_L iL (fun a b z => f a b (by omega)), k_W iW (fun a b z => f a b (by omega)), k_A c6 iA (fun a b z => f a b (by omega)), k_U iU (fun a b z => f a b (by omega)), k_G c2 c6 iG (fun a b z => f a b (by omega)), g1, k_Y iY (fun a b z => f a b (by omega)), d1, d2, k_S iS (fun a b z => f a b (by omega)), d3⟩
  exact ⟨r, h1, h2, e1, e2, ch g2⟩
theorem S_fire (hN : 5000 ≤ N) (hB : B < 512) (I : Inv B h) (x : Int32) : ∃ r h1 h2, F_X11_fire x h = some (r, h1) ∧ F_X12_fire x h1 = some (r, h2) ∧ Inv (B + 1) h2 := by
  obtain ⟨F, T, nv, c2, c6, iC, iM, iT, iR, iL, iW, iA, iU, iG, iP, iY, iD, iE, iS, iN⟩ := I
  obtain ⟨r, h1, h2, e1, e2, g1, g2, ff⟩ := P_fire iP x
  have f : ∀ a b, ¬ ((a = 51 ∧ 12 ≤ b ∧ b ≤ 15) ∨ (a = 103 ∧ (b = 0 ∨ b = 57 ∨ b = 61 ∨ b = 65))) → h2.1 a b = h.1 a b := fun a b z => ff a b (by simp [NbK] <;> omega) (by simp [NbK] <;> omega)
  have ch : h2.1 51 15 = h.1 51 15 + 1 → Inv (B + 1) h2 := fun y => by
    obtain ⟨d1, d2, d3⟩ := tg_D iN (by omega) 1 (by omega) (by omega) (by rw [y]; exact Int32.add_comm _ _) (f 51 16 (by omega)) (f 64 19 (by omega)) (f 80 4 (by omega))
    exact ⟨F, T, nv, c2, c6, k_C iC (fun a b z => f a b (by omega)), k_M iM (fun a b z => f a b (by omega)), k_T iT (fun a b z => f a b (by omega)), k_R iR (fun a b z => f a b (by omega)), k_L iL (fun a b z => f a b (by omega)), k_W iW (fun a b z => f a b (by omega)), k_A c6 iA (fun a b z => f a b (by omega)), k_U iU (fun a b z => f a b (by omega)), k_G c2 c6 iG (fun a b z => f a b (by omega)), g1, k_Y iY (fun a b z => f a b (by omega)), d1, d2, k_S iS (fun a b z => f a b (by omega)), d3⟩
  have kp : fq [] [(103, 0)] h h2 → Inv (B + 1) h2 := fun y => by
    have f : ∀ a b, ¬ (a = 103 ∧ b = 0) → h2.1 a b = h.1 a b := fun a b z => y a b (by simp) (by simp; omega)
    exact ⟨F, T, nv, c2, c6, k_C iC (fun a b z => f a b (by omega)), k_M iM (fun a b z => f a b (by omega)), k_T iT (fun a b z => f a b (by omega)), k_R iR (fun a b z => f a b (by omega)), k_L iL (fun a b z => f a b (by omega)), k_W iW (fun a b z => f a b (by omega)), k_A c6 iA (fun a b z => f a b (by omega)), k_U iU (fun a b z => f a b (by omega)), k_G c2 c6 iG (fun a b z => f a b (by omega)), g1, k_Y iY (fun a b z => f a b (by omega)), k_D iD (fun a b z => f a b (by omega)), k_E iE (fun a b z => f a b (by omega)), k_S iS (fun a b z => f a b (by omega)), k_N iN (fun a b z => f a b (by omega))⟩
  rcases g2 with g2 | g2
  · exact ⟨r, h1, h2, e1, e2, ch g2.2⟩
  · exact ⟨r, h1, h2, e1, e2, kp g2.2⟩
theorem S_cars (hN : 5000 ≤ N) (hB : B < 512) (I : Inv B h) (x : Int32) (y : Int32) (z : Int32) (w : Int32) : ∃ r h1 h2, F_X11_cars x y z w h = some (r, h1) ∧ F_X12_cars x y z w h1 = some (r, h2) ∧ Inv (B + 1) h2 := by
  obtain ⟨F, T, nv, c2, c6, iC, iM, iT, iR, iL, iW, iA, iU, iG, iP, iY, iD, iE, iS, iN⟩ := I
  obtain ⟨r, h1, h2, e1, e2, g1, g2, ff⟩ := P_cars c6 iC iM iP x y z w
  have f : ∀ a b, ¬ ((a = 51 ∧ ((8 ≤ b ∧ b ≤ 11) ∨ b = 15)) ∨ (a = 103 ∧ (b = 0 ∨ (53 ≤ b ∧ b ≤ 56)))) → h2.1 a b = h.1 a b := fun a b z => ff a b (by simp [CaK] <;> omega) (by simp [CaK] <;> omega)
  have ch : h2.1 51 15 = h.1 51 15 + 1 → Inv (B + 1) h2 := fun y => by
    obtain ⟨d1, d2, d3⟩ := tg_D iN (by omega) 1 (by omega) (by omega) (by rw [y]; exact Int32.add_comm _ _) (f 51 16 (by omega)) (f 64 19 (by omega)) (f 80 4 (by omega))
    exact ⟨F, T, nv, c2, c6, k_C iC (fun a b z => f a b (by omega)), k_M iM (fun a b z => f a b (by omega)), k_T iT (fun a b z => f a b (by omega)), k_R iR (fun a b z => f a b (by omega)), k_L iL (fun a b z => f a b (by omega)), k_W iW (fun a b z => f a b (by omega)), k_A c6 iA (fun a b z => f a b (by omega)), k_U iU (fun a b z => f a b (by omega)), k_G c2 c6 iG (fun a b z => f a b (by omega)), g1, k_Y iY (fun a b z => f a b (by omega)), d1, d2, k_S iS (fun a b z => f a b (by omega)), d3⟩
  have kp : fq [] [(103, 0)] h h2 → Inv (B + 1) h2 := fun y => by
    have f : ∀ a b, ¬ (a = 103 ∧ b = 0) → h2.1 a b = h.1 a b := fun a b z => y a b (by simp) (by simp; omega)
    exact ⟨F, T, nv, c2, c6, k_C iC (fun a b z => f a b (by omega)), k_M iM (fun a b z => f a b (by omega)), k_T iT (fun a b z => f a b (by omega)), k_R iR (fun a b z => f a b (by omega)), k_L iL (fun a b z => f a b (by omega)), k_W iW (fun a b z => f a b (by omega)), k_A c6 iA (fun a b z => f a b (by omega)), k_U iU (fun a b z => f a b (by omega)), k_G c2 c6 iG (fun a b z => f a b (by omega)), g1, k_Y iY (fun a b z => f a b (by omega)), k_D iD (fun a b z => f a b (by omega)), k_E iE (fun a b z => f a b (by omega)), k_S iS (fun a b z => f a b (by omega)), k_N iN (fun a b z => f a b (by omega))⟩
  rcases g2 with g2 | g2
  · exact ⟨r, h1, h2, e1, e2, ch g2.2⟩
  · exact ⟨r, h1, h2, e1, e2, kp g2.2⟩
theorem S_person (hN : 5000 ≤ N) (hB : B < 512) (I : Inv B h) (x : Int32) (y : Int32) (z : Int32) : ∃ r h1 h2, F_X11_person x y z h = some (r, h1) ∧ F_X12_person x y z h1 = some (r, h2) ∧ Inv (B + 1) h2 := by
  obtain ⟨F, T, nv, c2, c6, iC, iM, iT, iR, iL, iW, iA, iU, iG, iP, iY, iD, iE, iS, iN⟩ := I
  obtain ⟨r, h1, h2, e1, e2, g1, g2, ff⟩ := P_person c6 iC iM iP x y z
  have f : ∀ a b, ¬ ((52 ≤ a ∧ a ≤ 54) ∨ (136 ≤ a ∧ a ≤ 138) ∨ (a = 51 ∧ (b = 12 ∨ b = 15)) ∨ (a = 103 ∧ (b = 0 ∨ b = 57))) → h2.1 a b = h.1 a b := fun a b z => ff a b (by simp [PsS, PsK] <;> omega) (by simp [PsS, PsK] <;> omega)
  have ch : h2.1 51 15 = h.1 51 15 + 1 → Inv (B + 1) h2 := fun y => by
    obtain ⟨d1, d2, d3⟩ := tg_D iN (by omega) 1 (by omega) (by omega) (by rw [y]; exact Int32.add_comm _ _) (f 51 16 (by omega)) (f 64 19 (by omega)) (f 80 4 (by omega))
    exact ⟨F, T, nv, c2, c6, k_C iC (fun a b z => f a b (by omega)), k_M iM (fun a b z => f a b (by omega)), k_T iT (fun a b z => f a b (by omega)), k_R iR (fun a b z => f a b (by omega)), k_L iL (fun a b z => f a b (by omega)), k_W iW (fun a b z => f a b (by omega)), k_A c6 iA (fun a b z => f a b (by omega)), k_U iU (fun a b z => f a b (by omega)), k_G c2 c6 iG (fun a b z => f a b (by omega)), g1, k_Y iY (fun a b z => f a b (by omega)), d1, d2, k_S iS (fun a b z => f a b (by omega)), d3⟩
  have kp : fq [] [(103, 0)] h h2 → Inv (B + 1) h2 := fun y => by
    have f : ∀ a b, ¬ (a = 103 ∧ b = 0) → h2.1 a b = h.1 a b := fun a b z => y a b (by simp) (by simp; omega)
    exact ⟨F, T, nv, c2, c6, k_C iC (fun a b z => f a b (by omega)), k_M iM (fun a b z => f a b (by omega)), k_T iT (fun a b z => f a b (by omega)), k_R iR (fun a b z => f a b (by omega)), k_L iL (fun a b z => f a b (by omega)), k_W iW (fun a b z => f a b (by omega)), k_A c6 iA (fun a b z => f a b (by omega)), k_U iU (fun a b z => f a b (by omega)), k_G c2 c6 iG (fun a b z => f a b (by omega)), g1, k_Y iY (fun a b z => f a b (by omega)), k_D iD (fun a b z => f a b (by omega)), k_E iE (fun a b z => f a b (by omega)), k_S iS (fun a b z => f a b (by omega)), k_N iN (fun a b z => f a b (by omega))⟩
  rcases g2 with g2 | g2
  · exact ⟨r, h1, h2, e1, e2, ch g2⟩
  · exact ⟨r, h1, h2, e1, e2, kp g2⟩
theorem S_hold (hN : 5000 ≤ N) (hB : B < 512) (I : Inv B h) (x : Int32) (y : Int32) (z : Int32) : ∃ r h1 h2, F_X11_hold x y z h = some (r, h1) ∧ F_X12_hold x y z h1 = some (r, h2) ∧ Inv (B + 1) h2 := by
  obtain ⟨F, T, nv, c2, c6, iC, iM, iT, iR, iL, iW, iA, iU, iG, iP, iY, iD, iE, iS, iN⟩ := I
  obtain ⟨r, h1, h2, e1, e2, g1, g2, ff⟩ := P_hold iP x y z
  have f : ∀ a b, ¬ ((55 ≤ a ∧ a ≤ 57) ∨ (139 ≤ a ∧ a ≤ 141) ∨ (a = 51 ∧ (b = 13 ∨ b = 15)) ∨ (a = 103 ∧ (b = 0 ∨ b = 61))) → h2.1 a b = h.1 a b := fun a b z => ff a b (by simp [HoS, HoK] <;> omega) (by simp [HoS, HoK] <;> omega)
  have ch : h2.1 51 15 = h.1 51 15 + 1 → Inv (B + 1) h2 := fun y => by
    obtain ⟨d1, d2, d3⟩ := tg_D iN (by omega) 1 (by omega) (by omega) (by rw [y]; exact Int32.add_comm _ _) (f 51 16 (by omega)) (f 64 19 (by omega)) (f 80 4 (by omega))
    exact ⟨F, T, nv, c2, c6, k_C iC (fun a b z => f a b (by omega)), k_M iM (fun a b z => f a b (by omega)), k_T iT (fun a b z => f a b (by omega)), k_R iR (fun a b z => f a b (by omega)), k_L iL (fun a b z => f a b (by omega)), k_W iW (fun a b z => f a b (by omega)), k_A c6 iA (fun a b z => f a b (by omega)), k_U iU (fun a b z => f a b (by omega)), k_G c2 c6 iG (fun a b z => f a b (by omega)), g1, k_Y iY (fun a b z => f a b (by omega)), d1, d2, k_S iS (fun a b z => f a b (by omega)), d3⟩
  have kp : fq [] [(103, 0)] h h2 → Inv (B + 1) h2 := fun y => by
    have f : ∀ a b, ¬ (a = 103 ∧ b = 0) → h2.1 a b = h.1 a b := fun a b z => y a b (by simp) (by simp; omega)
    exact ⟨F, T, nv, c2, c6, k_C iC (fun a b z => f a b (by omega)), k_M iM (fun a b z => f a b (by omega)), k_T iT (fun a b z => f a b (by omega)), k_R iR (fun a b z => f a b (by omega)), k_L iL (fun a b z => f a b (by omega)), k_W iW (fun a b z => f a b (by omega)), k_A c6 iA (fun a b z => f a b (by omega)), k_U iU (fun a b z => f a b (by omega)), k_G c2 c6 iG (fun a b z => f a b (by omega)), g1, k_Y iY (fun a b z => f a b (by omega)), k_D iD (fun a b z => f a b (by omega)), k_E iE (fun a b z => f a b (by omega)), k_S iS (fun a b z => f a b (by omega)), k_N iN (fun a b z => f a b (by omega))⟩
  rcases g2 with g2 | g2
  · exact ⟨r, h1, h2, e1, e2, ch g2⟩
  · exact ⟨r, h1, h2, e1, e2, kp g2⟩
theorem S_run (hN : 5000 ≤ N) (hB : B < 512) (I : Inv B h) : ∃ r h1 h2, F_X11_run N h = some (r, h1) ∧ F_X12_run N h1 = some (r, h2) ∧ Inv (B + 1) h2 := by
  obtain ⟨F, T, nv, c2, c6, iC, iM, iT, iR, iL, iW, iA, iU, iG, iP, iY, iD, iE, iS, iN⟩ := I
  obtain ⟨r, h1, h2, e1, e2, g1, ff, g2⟩ := P_run hN (PB_of c2 c6 iM iP iY) iD 
  have f : ∀ a b, ¬ (a = 59 ∨ a = 63 ∨ (64 ≤ a ∧ a ≤ 79) ∨ (114 ≤ a ∧ a ≤ 123) ∨ (142 ≤ a ∧ a ≤ 149) ∨ (a = 103 ∧ (b = 0 ∨ b = 74))) → h2.1 a b = h.1 a b := fun a b z => ff a b z
  exact ⟨r, h1, h2, e1, e2, ⟨F, T, nv, c2, c6, k_C iC (fun a b z => f a b (by omega)), k_M iM (fun a b z => f a b (by omega)), k_T iT (fun a b z => f a b (by omega)), k_R iR (fun a b z => f a b (by omega)), k_L iL (fun a b z => f a b (by omega)), k_W iW (fun a b z => f a b (by omega)), k_A c6 iA (fun a b z => f a b (by omega)), k_U iU (fun a b z => f a b (by omega)), k_G c2 c6 iG (fun a b z => f a b (by omega)), k_P iP (fun a b z => f a b (by omega)), k_Y iY (fun a b z => f a b (by omega)), g1, k_E iE (fun a b z => f a b (by omega)), k_S iS (fun a b z => f a b (by omega)), tg_K iN (f 51 15 (by omega)) (f 51 16 (by omega)) g2 (Or.inl (f 80 4 (by omega)))⟩⟩
theorem S_rode (hN : 5000 ≤ N) (hB : B < 512) (I : Inv B h) (x : Int32) (y : Int32) : ∃ r h1 h2, F_X11_rode N x y h = some (r, h1) ∧ F_X12_rode N x y h1 = some (r, h2) ∧ Inv (B + 1) h2 := by
  obtain ⟨F, T, nv, c2, c6, iC, iM, iT, iR, iL, iW, iA, iU, iG, iP, iY, iD, iE, iS, iN⟩ := I
  obtain ⟨r, h1, h2, e1, e2, g1, ff, g2⟩ := P_rode hN (PB_of c2 c6 iM iP iY) iD x y
  have f : ∀ a b, ¬ (a = 59 ∨ a = 63 ∨ (64 ≤ a ∧ a ≤ 79) ∨ (114 ≤ a ∧ a ≤ 123) ∨ (142 ≤ a ∧ a ≤ 149) ∨ (a = 103 ∧ (b = 0 ∨ b = 74))) → h2.1 a b = h.1 a b := fun a b z => ff a b z
  exact ⟨r, h1, h2, e1, e2, ⟨F, T, nv, c2, c6, k_C iC (fun a b z => f a b (by omega)), k_M iM (fun a b z => f a b (by omega)), k_T iT (fun a b z => f a b (by omega)), k_R iR (fun a b z => f a b (by omega)), k_L iL (fun a b z => f a b (by omega)), k_W iW (fun a b z => f a b (by omega)), k_A c6 iA (fun a b z => f a b (by omega)), k_U iU (fun a b z => f a b (by omega)), k_G c2 c6 iG (fun a b z => f a b (by omega)), k_P iP (fun a b z => f a b (by omega)), k_Y iY (fun a b z => f a b (by omega)), g1, k_E iE (fun a b z => f a b (by omega)), k_S iS (fun a b z => f a b (by omega)), tg_K iN (f 51 15 (by omega)) (f 51 16 (by omega)) g2 (Or.inl (f 80 4 (by omega)))⟩⟩
theorem S_waits (hN : 5000 ≤ N) (hB : B < 512) (I : Inv B h) (x : Int32) : ∃ r h1 h2, F_X11_waits N x h = some (r, h1) ∧ F_X12_waits N x h1 = some (r, h2) ∧ Inv (B + 1) h2 := by
  obtain ⟨F, T, nv, c2, c6, iC, iM, iT, iR, iL, iW, iA, iU, iG, iP, iY, iD, iE, iS, iN⟩ := I
  obtain ⟨r, h1, h2, e1, e2, g1, ff, g2⟩ := P_waits hN (PB_of c2 c6 iM iP iY) iD x
  have f : ∀ a b, ¬ (a = 59 ∨ a = 63 ∨ (64 ≤ a ∧ a ≤ 79) ∨ (114 ≤ a ∧ a ≤ 123) ∨ (142 ≤ a ∧ a ≤ 149) ∨ (a = 103 ∧ (b = 0 ∨ b = 74))) → h2.1 a b = h.1 a b := fun a b z => ff a b z
  exact ⟨r, h1, h2, e1, e2, ⟨F, T, nv, c2, c6, k_C iC (fun a b z => f a b (by omega)), k_M iM (fun a b z => f a b (by omega)), k_T iT (fun a b z => f a b (by omega)), k_R iR (fun a b z => f a b (by omega)), k_L iL (fun a b z => f a b (by omega)), k_W iW (fun a b z => f a b (by omega)), k_A c6 iA (fun a b z => f a b (by omega)), k_U iU (fun a b z => f a b (by omega)), k_G c2 c6 iG (fun a b z => f a b (by omega)), k_P iP (fun a b z => f a b (by omega)), k_Y iY (fun a b z => f a b (by omega)), g1, k_E iE (fun a b z => f a b (by omega)), k_S iS (fun a b z => f a b (by omega)), tg_K iN (f 51 15 (by omega)) (f 51 16 (by omega)) g2 (Or.inl (f 80 4 (by omega)))⟩⟩
theorem S_moved (hN : 5000 ≤ N) (hB : B < 512) (I : Inv B h) (x : Int32) (y : Int32) : ∃ r h1 h2, F_X11_moved N x y h = some (r, h1) ∧ F_X12_moved N x y h1 = some (r, h2) ∧ Inv (B + 1) h2 := by
  obtain ⟨F, T, nv, c2, c6, iC, iM, iT, iR, iL, iW, iA, iU, iG, iP, iY, iD, iE, iS, iN⟩ := I
  obtain ⟨r, h1, h2, e1, e2, g1, ff, g2⟩ := P_moved hN (PB_of c2 c6 iM iP iY) iD x y
  have f : ∀ a b, ¬ (a = 59 ∨ a = 63 ∨ (64 ≤ a ∧ a ≤ 79) ∨ (114 ≤ a ∧ a ≤ 123) ∨ (142 ≤ a ∧ a ≤ 149) ∨ (a = 103 ∧ (b = 0 ∨ b = 74))) → h2.1 a b = h.1 a b := fun a b z => ff a b z
  exact ⟨r, h1, h2, e1, e2, ⟨F, T, nv, c2, c6, k_C iC (fun a b z => f a b (by omega)), k_M iM (fun a b z => f a b (by omega)), k_T iT (fun a b z => f a b (by omega)), k_R iR (fun a b z => f a b (by omega)), k_L iL (fun a b z => f a b (by omega)), k_W iW (fun a b z => f a b (by omega)), k_A c6 iA (fun a b z => f a b (by omega)), k_U iU (fun a b z => f a b (by omega)), k_G c2 c6 iG (fun a b z => f a b (by omega)), k_P iP (fun a b z => f a b (by omega)), k_Y iY (fun a b z => f a b (by omega)), g1, k_E iE (fun a b z => f a b (by omega)), k_S iS (fun a b z => f a b (by omega)), tg_K iN (f 51 15 (by omega)) (f 51 16 (by omega)) g2 (Or.inl (f 80 4 (by omega)))⟩⟩
theorem S_stopped (hN : 5000 ≤ N) (hB : B < 512) (I : Inv B h) (x : Int32) : ∃ r h1 h2, F_X11_stopped N x h = some (r, h1) ∧ F_X12_stopped N x h1 = some (r, h2) ∧ Inv (B + 1) h2 := by
  obtain ⟨F, T, nv, c2, c6, iC, iM, iT, iR, iL, iW, iA, iU, iG, iP, iY, iD, iE, iS, iN⟩ := I
  obtain ⟨r, h1, h2, e1, e2, g1, ff, g2⟩ := P_stopped hN (PB_of c2 c6 iM iP iY) iD x
  have f : ∀ a b, ¬ (a = 59 ∨ a = 63 ∨ (64 ≤ a ∧ a ≤ 79) ∨ (114 ≤ a ∧ a ≤ 123) ∨ (142 ≤ a ∧ a ≤ 149) ∨ (a = 103 ∧ (b = 0 ∨ b = 74))) → h2.1 a b = h.1 a b := fun a b z => ff a b z
  exact ⟨r, h1, h2, e1, e2, ⟨F, T, nv, c2, c6, k_C iC (fun a b z => f a b (by omega)), k_M iM (fun a b z => f a b (by omega)), k_T iT (fun a b z => f a b (by omega)), k_R iR (fun a b z => f a b (by omega)), k_L iL (fun a b z => f a b (by omega)), k_W iW (fun a b z => f a b (by omega)), k_A c6 iA (fun a b z => f a b (by omega)), k_U iU (fun a b z => f a b (by omega)), k_G c2 c6 iG (fun a b z => f a b (by omega)), k_P iP (fun a b z => f a b (by omega)), k_Y iY (fun a b z => f a b (by omega)), g1, k_E iE (fun a b z => f a b (by omega)), k_S iS (fun a b z => f a b (by omega)), tg_K iN (f 51 15 (by omega)) (f 51 16 (by omega)) g2 (Or.inl (f 80 4 (by omega)))⟩⟩
theorem S_best (hN : 5000 ≤ N) (hB : B < 512) (I : Inv B h) (x : Int32) (y : Int32) : ∃ r h1 h2, F_X11_best N x y h = some (r, h1) ∧ F_X12_best N x y h1 = some (r, h2) ∧ Inv (B + 1) h2 := by
  obtain ⟨F, T, nv, c2, c6, iC, iM, iT, iR, iL, iW, iA, iU, iG, iP, iY, iD, iE, iS, iN⟩ := I
  obtain ⟨r, h1, h2, e1, e2, g1, ff, g2⟩ := P_best hN (PB_of c2 c6 iM iP iY) iE x y
  have f : ∀ a b, ¬ (a = 59 ∨ a = 63 ∨ (a = 80 ∧ b = 4) ∨ a = 81 ∨ a = 82 ∨ (83 ≤ a ∧ a ≤ 98) ∨ (114 ≤ a ∧ a ≤ 123) ∨ (142 ≤ a ∧ a ≤ 149) ∨ (a = 103 ∧ (b = 0 ∨ b = 74))) → h2.1 a b = h.1 a b := fun a b z => ff a b z
  exact ⟨r, h1, h2, e1, e2, ⟨F, T, nv, c2, c6, k_C iC (fun a b z => f a b (by omega)), k_M iM (fun a b z => f a b (by omega)), k_T iT (fun a b z => f a b (by omega)), k_R iR (fun a b z => f a b (by omega)), k_L iL (fun a b z => f a b (by omega)), k_W iW (fun a b z => f a b (by omega)), k_A c6 iA (fun a b z => f a b (by omega)), k_U iU (fun a b z => f a b (by omega)), k_G c2 c6 iG (fun a b z => f a b (by omega)), k_P iP (fun a b z => f a b (by omega)), k_Y iY (fun a b z => f a b (by omega)), k_D iD (fun a b z => f a b (by omega)), g1, k_S iS (fun a b z => f a b (by omega)), tg_K iN (f 51 15 (by omega)) (f 51 16 (by omega)) (Or.inl (f 64 19 (by omega))) g2⟩⟩
theorem S_floors (hN : 5000 ≤ N) (hB : B < 512) (I : Inv B h) (x : Int32) : ∃ r h1 h2, F_X11_floors N x h = some (r, h1) ∧ F_X12_floors N x h1 = some (r, h2) ∧ Inv (B + 1) h2 := by
  obtain ⟨F, T, nv, c2, c6, iC, iM, iT, iR, iL, iW, iA, iU, iG, iP, iY, iD, iE, iS, iN⟩ := I
  by_cases g : wth x 2 6 = true
  · obtain ⟨n, n1, n2, rfl⟩ := wth_ab (i := 2) (k := 6) (by omega) g (by omega)
    obtain ⟨h1, e1, a1, a2, a3⟩ := house_x (N := N) (F := n) (h := h)
    obtain ⟨h2, e2, b1, b2⟩ := floorsM_x (N := N) (F := n) (h := h1) (by omega) g
    have f1 : ∀ a b, ¬ (a = 14 ∨ (a = 15 ∧ (b = 1 ∨ b = 6)) ∨ a = 18 ∨ a = 19 ∨ (a = 21 ∧ b = 12) ∨ (a = 39 ∧ (b = 0 ∨ b = 1 ∨ b = 12)) ∨ (a = 51 ∧ 7 ≤ b ∧ b ≤ 15) ∨ a = 58 ∨ a = 61 ∨ a = 62 ∨ a = 99) → h1.1 a b = h.1 a b := fun a b z => a3 a b (by simp [ShS]; omega) (by simp [ShK]; omega)
    have f2 : ∀ a b, ¬ (a = 105 ∨ (a = 103 ∧ (b = 0 ∨ b = 1 ∨ b = 20 ∨ (33 ≤ b ∧ b ≤ 35) ∨ b = 37 ∨ b = 46 ∨ (53 ≤ b ∧ b ≤ 65) ∨ b = 75 ∨ (79 ≤ b ∧ b ≤ 81)))) → h2.1 a b = h1.1 a b := fun a b z => b2 a b (by simp; omega) (by simp [ShM]; omega)
    have lo : ∀ a b, a < 103 → h2.1 a b = h1.1 a b := fun a b z => f2 a b (by omega)
    have fc : FrC n h2 := by
      unfold FrC at a1 ⊢
      simp only [fun a b (z : a < 103) => lo a b z, Nat.reduceLT]
      exact a1
    obtain ⟨w1, w2, w3, w4, w5, w6, w7, w8, w9, w10⟩ := fresh_x n1 n2 fc b1
    obtain ⟨d1, d2, d3⟩ := tg_D (h' := h2) iN (by omega) 2 (by omega) (by omega) (by
      rw [lo 51 15 (by omega), a2, Int32.add_assoc, Int32.add_comm]; rfl) (by rw [lo 51 16 (by omega), f1 51 16 (by omega)]) (by rw [lo 64 19 (by omega), f1 64 19 (by omega)]) (by rw [lo 80 4 (by omega), f1 80 4 (by omega)])
    refine ⟨1, h1, h2, ?_, e2, n, fun _ _ => false, 0, n1, n2, w1, w2, k_T iT (fun a b z => by rw [f2 a b (by omega), f1 a b (by omega)]), w3, w4, w5, w6, w7, w8, w9, w10, d1, d2, k_S iS (fun a b z => by rw [f2 a b (by omega), f1 a b (by omega)]), d3⟩
    unfold F_X11_floors
    rw [if_neg (show ¬ nI n < 2 from nI_nlt (b := 2) n1 (by omega)), if_pos (show nI n ≤ 6 from nI_le (b := 6) n2 (by omega)), e1, bV_s]
  · have f : ∀ a b, ¬ (a = 103 ∧ b = 0) → (hs h 103 0 0).1 a b = h.1 a b := fun a b z => c103 z
    refine ⟨0, h, hs h 103 0 0, ?_, ?_, ⟨F, T, nv, c2, c6, k_C iC (fun a b z => f a b (by omega)), k_M iM (fun a b z => f a b (by omega)), k_T iT (fun a b z => f a b (by omega)), k_R iR (fun a b z => f a b (by omega)), k_L iL (fun a b z => f a b (by omega)), k_W iW (fun a b z => f a b (by omega)), k_A c6 iA (fun a b z => f a b (by omega)), k_U iU (fun a b z => f a b (by omega)), k_G c2 c6 iG (fun a b z => f a b (by omega)), k_P iP (fun a b z => f a b (by omega)), k_Y iY (fun a b z => f a b (by omega)), k_D iD (fun a b z => f a b (by omega)), k_E iE (fun a b z => f a b (by omega)), k_S iS (fun a b z => f a b (by omega)), k_N iN (fun a b z => f a b (by omega))⟩⟩
    · unfold F_X11_floors
      by_cases y1 : x < 2
      · rw [if_pos y1]
      · rw [if_neg y1, if_neg (fun y2 => g (decide_eq_true ⟨Int32.not_lt.mp y1, y2⟩))]
    · unfold F_X12_floors
      rw [hb_e, within_x, bI_s, if_neg g, if_pos rfl]
theorem rd_f (f : RdF h h') : ∀ a b, ¬ ((3 ≤ a ∧ a ≤ 13) ∨ (108 ≤ a ∧ a ≤ 110) ∨ a = 112 ∨ a = 113 ∨ (a = 111 ∧ 2000 ≤ b) ∨ (a = 1 ∧ b = 1) ∨ (a = 103 ∧ (b = 0 ∨ b = 2 ∨ b = 4 ∨ b = 5 ∨ b = 6 ∨ b = 7 ∨ b = 9 ∨ b = 10 ∨ b = 18 ∨ b = 19))) → h'.1 a b = h.1 a b := fun a b z => by
  by_cases e : a = 111
  · rw [e, f.2 b (by omega)]
  · exact f.1 a b (by simp [RdS]; omega) (by simp [RdK]; omega)
theorem S_rd (g1 : TI h2) (g2 : RdF h h2) (I : Inv B h) : Inv (B + 1) h2 := by
  obtain ⟨F, T, nv, c2, c6, iC, iM, iT, iR, iL, iW, iA, iU, iG, iP, iY, iD, iE, iS, iN⟩ := I
  have f := rd_f g2
  exact ⟨F, T, nv, c2, c6, k_C iC (fun a b z => f a b (by omega)), k_M iM (fun a b z => f a b (by omega)), g1, k_R iR (fun a b z => f a b (by omega)), k_L iL (fun a b z => f a b (by omega)), k_W iW (fun a b z => f a b (by omega)), k_A c6 iA (fun a b z => f a b (by omega)), k_U iU (fun a b z => f a b (by omega)), k_G c2 c6 iG (fun a b z => f a b (by omega)), k_P iP (fun a b z => f a b (by omega)), k_Y iY (fun a b z => f a b (by omega)), k_D iD (fun a b z => f a b (by omega)), k_E iE (fun a b z => f a b (by omega)), k_S iS (fun a b z => f a b (by omega)), k_N iN (fun a b z => f a b (by omega))⟩
theorem S_circuit (hN : 5000 ≤ N) (hB : B < 512) (I : Inv B h) : ∃ r h1 h2, F_X11_circuit N h = some (r, h1) ∧ F_X12_circuit N h1 = some (r, h2) ∧ Inv (B + 1) h2 := by
  have I0 := I
  obtain ⟨F, T, nv, c2, c6, iC, iM, iT, iR, iL, iW, iA, iU, iG, iP, iY, iD, iE, iS, iN⟩ := I
  obtain ⟨r, h1, h2, e1, e2, g1, g2⟩ := P_circuit hN c2 c6 iC iM iT
  rcases g2 with ⟨-, g2⟩ | ⟨-, g2, g3, ff, g4, g5, g6⟩
  · exact ⟨r, h1, h2, e1, e2, S_rd g1 g2 I0⟩
  · obtain ⟨T', nv', L'⟩ := LnT_I g2
    obtain ⟨s1, s2, s3, s4, s5, s6, s7, s8, s9, s10, s11, s12⟩ := g3
    have f0 : ∀ a b, ¬ (a = 15 ∨ (17 ≤ a ∧ a ≤ 19) ∨ (105 ≤ a ∧ a ≤ 107) ∨ a = 111 ∨ (3 ≤ a ∧ a ≤ 13) ∨ (108 ≤ a ∧ a ≤ 110) ∨ a = 112 ∨ a = 113 ∨ (a = 1 ∧ b = 1) ∨ (a = 14 ∧ 2 ≤ b ∧ b ≤ 4) ∨ (a = 21 ∧ b = 12) ∨ (a = 39 ∧ (b = 0 ∨ b = 1 ∨ b = 12)) ∨ (a = 103 ∧ (b = 0 ∨ b = 2 ∨ b = 4 ∨ b = 5 ∨ b = 6 ∨ b = 7 ∨ b = 9 ∨ b = 10 ∨ b = 18 ∨ b = 19 ∨ (33 ≤ b ∧ b ≤ 35) ∨ b = 37 ∨ b = 46))) → h2.1 a b = h.1 a b := fun a b z => ff a b (by simp [ClS, RdS]; omega) (by simp [St0K, RdK]; omega)
    have f : ∀ a b, ¬ (a = 15 ∨ (17 ≤ a ∧ a ≤ 19) ∨ a = 105 ∨ ((a = 106 ∨ a = 107) ∧ b ≠ 25) ∨ (a = 111 ∧ (b < 1000 ∨ 2000 ≤ b)) ∨ (3 ≤ a ∧ a ≤ 13) ∨ (108 ≤ a ∧ a ≤ 110) ∨ a = 112 ∨ a = 113 ∨ (a = 1 ∧ b = 1) ∨ (a = 14 ∧ 2 ≤ b ∧ b ≤ 4) ∨ (a = 21 ∧ b = 12) ∨ (a = 39 ∧ (b = 0 ∨ b = 1 ∨ b = 12)) ∨ (a = 103 ∧ (b = 0 ∨ b = 2 ∨ b = 4 ∨ b = 5 ∨ b = 6 ∨ b = 7 ∨ b = 9 ∨ b = 10 ∨ b = 18 ∨ b = 19 ∨ (33 ≤ b ∧ b ≤ 35) ∨ b = 37 ∨ b = 46))) → h2.1 a b = h.1 a b := fun a b z => by
      by_cases e : a = 106
      · rw [e, show b = 25 by omega]; exact g5
      · by_cases e' : a = 107
        · rw [e', show b = 25 by omega]; exact g6
        · by_cases e2' : a = 111
          · rw [e2']; exact g4 b (by omega) (by omega)
          · exact f0 a b (by omega)
    refine ⟨r, h1, h2, e1, e2, F, T', nv', c2, c6, k_C iC (fun a b z => f a b (by omega)), k_M iM (fun a b z => f a b (by omega)), g1, k_R iR (fun a b z => f a b (by omega)), L', ⟨(0, 0, 0), ⟨by show 0 < 256; omega, by show 0 < F; omega, by show 0 < 2; omega⟩, s1, s8, by rw [s2, s9], by rw [s3, s10]⟩, Or.inl s4, Or.inl s11, Or.inl ⟨s5, s12⟩, k_P iP (fun a b z => f a b (by omega)), k_Y iY (fun a b z => f a b (by omega)), k_D iD (fun a b z => f a b (by omega)), k_E iE (fun a b z => f a b (by omega)), k_S iS (fun a b z => f a b (by omega)), k_N iN (fun a b z => f a b (by omega))⟩
theorem S_rule (hN : 5000 ≤ N) (hB : B < 512) (I : Inv B h) : ∃ r h1 h2, F_X11_rule N h = some (r, h1) ∧ F_X12_rule N h1 = some (r, h2) ∧ Inv (B + 1) h2 := by
  have I0 := I
  obtain ⟨F, T, nv, c2, c6, iC, iM, iT, iR, iL, iW, iA, iU, iG, iP, iY, iD, iE, iS, iN⟩ := I
  obtain ⟨r, h1, h2, e1, e2, g1, g2⟩ := P_rule hN c6 iM iT
  rcases g2 with ⟨-, g2⟩ | ⟨-, g2, g3, ff, g4⟩
  · exact ⟨r, h1, h2, e1, e2, S_rd g1 g2 I0⟩
  · have f : ∀ a b, ¬ (a = 58 ∨ (60 ≤ a ∧ a ≤ 62) ∨ (a = 111 ∧ 1000 ≤ b) ∨ (3 ≤ a ∧ a ≤ 13) ∨ (108 ≤ a ∧ a ≤ 110) ∨ a = 112 ∨ a = 113 ∨ (a = 1 ∧ b = 1) ∨ (a = 51 ∧ b = 16) ∨ ((a = 106 ∨ a = 107) ∧ b = 25) ∨ (a = 103 ∧ (b = 0 ∨ b = 2 ∨ b = 4 ∨ b = 5 ∨ b = 6 ∨ b = 7 ∨ b = 9 ∨ b = 10 ∨ b = 18 ∨ b = 19 ∨ b = 20))) → h2.1 a b = h.1 a b := fun a b z => by
      by_cases e : a = 111
      · rw [e]; exact g4 b (by omega)
      · exact ff a b (by simp [RlS, RdS]; omega) (by simp [RlK, RdK]; omega)
    obtain ⟨d1, d3⟩ := tg_R (h' := h2) iN (by omega) (f 51 15 (by omega)) g3 (f 64 19 (by omega)) (f 80 4 (by omega))
    exact ⟨r, h1, h2, e1, e2, ⟨F, T, nv, c2, c6, k_C iC (fun a b z => f a b (by omega)), k_M iM (fun a b z => f a b (by omega)), g1, k_R iR (fun a b z => f a b (by omega)), k_L iL (fun a b z => f a b (by omega)), k_W iW (fun a b z => f a b (by omega)), k_A c6 iA (fun a b z => f a b (by omega)), k_U iU (fun a b z => f a b (by omega)), k_G c2 c6 iG (fun a b z => f a b (by omega)), k_P iP (fun a b z => f a b (by omega)), g2, d1, k_E iE (fun a b z => f a b (by omega)), k_S iS (fun a b z => f a b (by omega)), d3⟩⟩
/-- look(): what both tell, or both throw -/
theorem S_look (hN : 5000 ≤ N) (hB : B < 512) (I : Inv B h) (x : Int32) : (wth x 0 5 = true ∧ ∃ r h1 h2, lookC N x h = some (r, h1) ∧ F_X12_look N x h1 = some (r, h2) ∧ h2.1 103 0 = 0 ∧ Inv (B + 1) h2) ∨ (wth x 0 5 = false ∧ F_X12_look N x h = some (0, hs h 103 0 1) ∧ Inv (B + 1) (hs h 103 0 1)) := by
  obtain ⟨F, T, nv, c2, c6, iC, iM, iT, iR, iL, iW, iA, iU, iG, iP, iY, iD, iE, iS, iN⟩ := I
  rcases P_look hN c6 iL iW x with ⟨g, r, h1, h2, e1, e2, g1, ff⟩ | ⟨g, e2⟩
  · have f : ∀ a b, ¬ (a = 20 ∨ (114 ≤ a ∧ a ≤ 123) ∨ (a = 103 ∧ (b = 0 ∨ b = 36))) → h2.1 a b = h.1 a b := fun a b z => ff a b z
    exact Or.inl ⟨g, r, h1, h2, e1, e2, g1, ⟨F, T, nv, c2, c6, k_C iC (fun a b z => f a b (by omega)), k_M iM (fun a b z => f a b (by omega)), k_T iT (fun a b z => f a b (by omega)), k_R iR (fun a b z => f a b (by omega)), k_L iL (fun a b z => f a b (by omega)), k_W iW (fun a b z => f a b (by omega)), k_A c6 iA (fun a b z => f a b (by omega)), k_U iU (fun a b z => f a b (by omega)), k_G c2 c6 iG (fun a b z => f a b (by omega)), k_P iP (fun a b z => f a b (by omega)), k_Y iY (fun a b z => f a b (by omega)), k_D iD (fun a b z => f a b (by omega)), k_E iE (fun a b z => f a b (by omega)), k_S iS (fun a b z => f a b (by omega)), k_N iN (fun a b z => f a b (by omega))⟩⟩
  · have f : ∀ a b, ¬ (a = 103 ∧ b = 0) → (hs h 103 0 1).1 a b = h.1 a b := fun a b z => by
      rw [hs_1]
      by_cases y : a = 103
      · rw [if_pos y, if_neg (by omega)]
      · rw [if_neg y]
    exact Or.inr ⟨g, e2, ⟨F, T, nv, c2, c6, k_C iC (fun a b z => f a b (by omega)), k_M iM (fun a b z => f a b (by omega)), k_T iT (fun a b z => f a b (by omega)), k_R iR (fun a b z => f a b (by omega)), k_L iL (fun a b z => f a b (by omega)), k_W iW (fun a b z => f a b (by omega)), k_A c6 iA (fun a b z => f a b (by omega)), k_U iU (fun a b z => f a b (by omega)), k_G c2 c6 iG (fun a b z => f a b (by omega)), k_P iP (fun a b z => f a b (by omega)), k_Y iY (fun a b z => f a b (by omega)), k_D iD (fun a b z => f a b (by omega)), k_E iE (fun a b z => f a b (by omega)), k_S iS (fun a b z => f a b (by omega)), k_N iN (fun a b z => f a b (by omega))⟩⟩
end
