/-! the reference's loop, by levels -/
def EndC (L k : Nat) (c : Int32) : Prop := ∀ L', L ≤ L' → L' ≤ 3 → lvl k = L' → L' = 1 ∧ c = 1
def MEx (n : Nat) (T : Nat → Nat) (m : Nat) (r : Bool) (F B0 c0 N d L : Nat) (sub : Nat → PO) : Prop := ∀ i C0 h fu, MaS n T m r F B0 c0 i C0 h → c0 + C0.length ≤ B0 + i → m + 2 < fu + i → popN (h.1 112) d = d → (L ≤ 1 → h.1 113 d = 0) → match sub i with
  | .inl (k, j) => MFa n T c0 k j h (F_X12_reads_b11 N fu (nI d) 1 h)
  | .inr (j, _, C) => MGo n T m r F B0 c0 N i d d fu C0 h j C (fun h' => (2 ≤ L → h'.1 113 d = h.1 113 d) ∧ EndC L (kdf n T j) (h'.1 113 d))
section
variable {n : Nat} {T : Nat → Nat} {m : Nat} {r : Bool} {F B0 c0 : Nat}
theorem mEx4 {N d : Nat} {sub : Nat → PO} (H : MPt n T m r F B0 c0 N d sub) : MEx n T m r F B0 c0 N d 4 sub := by
  intro i C0 h fu S hC hf hp _
  have := H i C0 h fu S hC hf
  cases hsub : sub i with
  | inl e => rw [hsub] at this; exact this
  | inr q =>
    obtain ⟨j, E, C⟩ := q
    rw [hsub] at this
    obtain ⟨h', fu', a1, a2, a3, a4, a5, a6, a7, a8, a9⟩ := this
    rw [hp] at a1
    exact ⟨h', fu', a1, a2, a3, a4, a5, a6, a7, ⟨fun _ => a8, fun L' h1 h2 => by omega⟩, a9⟩
theorem lvl_k {k L : Nat} (h : lvl k = L) (hL : L ≤ 3) : (L = 0 ∧ (k = 19 ∨ k = 20)) ∨ (L = 1 ∧ (k = 6 ∨ k = 7)) ∨ (L = 2 ∧ (k = 8 ∨ k = 9)) ∨ (L = 3 ∧ k = 10) := by
  unfold lvl at h
  repeat' split at h
  all_goals omega
/-- an operator is taken -/
theorem b11_op {N fu d L j : Nat} (B : TB (n, T)) (hN : 2000 ≤ N) {C0 : List Nat} {h : PH} (S : MaS n T m r F B0 c0 j C0 h) (hC : c0 + C0.length ≤ B0 + j) (hd : d < 7) (hL : L ≤ 3) (g : lvl (kdf n T j) = L) (hc : L = 1 → h.1 113 d = 0) : ∃ h', F_X12_reads_b11 N (fu + 1) (nI d) 0 h = F_X12_reads_b11 N fu (nI d) 1 h' ∧ MaS n T m r F B0 c0 (j + 1) (C0 ++ [opc (kdf n T j)]) h' ∧ h'.1 112 = h.1 112 ∧ (∀ e, e ≠ d → h'.1 113 e = h.1 113 e) ∧ h'.1 113 d = (if L = 1 then 1 else if L = 0 then 0 else h.1 113 d) ∧ MFr c0 h h' := by
  have hk := lvl_k g hL
  have hj : j < m := mEnd S (by omega)
  obtain ⟨h2, e2, S2, f2, o2, c2⟩ := mputs (c := opc (kdf n T j)) S hC hj
  have s43 : F_X12_isSign 43 h = _ := mSign B S (c := 43) (by decide) (by omega)
  have s45 : F_X12_isSign 45 h = _ := mSign B S (c := 45) (by decide) (by omega)
  have s42 : F_X12_isSign 42 h = _ := mSign B S (c := 42) (by decide) (by omega)
  have s60 : F_X12_isSign 60 h = _ := mSign B S (c := 60) (by decide) (by omega)
  have s61 : F_X12_isSign 61 h = _ := mSign B S (c := 61) (by decide) (by omega)
  have wa : F_X12_isWord 1111 h = _ := mWord B S 7 (x := 1111) (by omega) (by decide)
  have wo : F_X12_isWord 423 h = _ := mWord B S 8 (x := 423) (by omega) (by decide)
  rw [show sgk 43 = 8 from by decide] at s43
  rw [show sgk 45 = 9 from by decide] at s45
  rw [show sgk 42 = 10 from by decide] at s42
  rw [show sgk 60 = 6 from by decide] at s60
  rw [show sgk 61 = 7 from by decide] at s61
  rw [show 12 + 7 = 19 from rfl] at wa
  rw [show 12 + 8 = 20 from rfl] at wo
  rw [F_X12_reads_b11, if_pos rfl]
  have go : ∀ h3 : PH, MaS n T m r F B0 c0 j (C0 ++ [opc (kdf n T j)]) h3 → h3.1 112 = h.1 112 → (∀ e, e ≠ d → h3.1 113 e = h.1 113 e) → h3.1 113 d = (if L = 1 then 1 else if L = 0 then 0 else h.1 113 d) → MFr c0 h h3 → ∃ h', F_X12_reads_b432 N (F_X12_reads_b11 N fu) (nI d) 1 h3 = F_X12_reads_b11 N fu (nI d) 1 h' ∧ MaS n T m r F B0 c0 (j + 1) (C0 ++ [opc (kdf n T j)]) h' ∧ h'.1 112 = h.1 112 ∧ (∀ e, e ≠ d → h'.1 113 e = h.1 113 e) ∧ h'.1 113 d = (if L = 1 then 1 else if L = 0 then 0 else h.1 113 d) ∧ MFr c0 h h' := by
    intro h3 S3 o3 c3 d3 f3
    unfold F_X12_reads_b432
    obtain ⟨h', e4, S4, f4⟩ := mnext B hN S3 hj
    refine ⟨h', by rw [e4]; rfl, S4, ?_, fun e he => ?_, ?_, MFr_t f3 (MFr_n f4)⟩
    · rw [← o3]; funext t; exact f4.1 112 t (by simp) (by simp)
    · rw [f4.1 113 _ (by simp) (by simp)]; exact c3 e he
    · rw [f4.1 113 _ (by simp) (by simp)]; exact d3
  have plain : 2 ≤ L → ∃ h', F_X12_reads_b228 N (F_X12_reads_b11 N fu) (nI d) (nI (opc (kdf n T j))) h = F_X12_reads_b11 N fu (nI d) 1 h' ∧ MaS n T m r F B0 c0 (j + 1) (C0 ++ [opc (kdf n T j)]) h' ∧ h'.1 112 = h.1 112 ∧ (∀ e, e ≠ d → h'.1 113 e = h.1 113 e) ∧ h'.1 113 d = (if L = 1 then 1 else if L = 0 then 0 else h.1 113 d) ∧ MFr c0 h h' := fun q => by
    unfold F_X12_reads_b228
    rw [e2, bV_s]
    exact go h2 S2 o2 (fun e _ => by rw [c2]) (by rw [c2, if_neg (by omega), if_neg (by omega)]) f2
  rcases hk with ⟨hL0, hk⟩ | ⟨hL1, hk⟩ | ⟨hL2, hk⟩ | ⟨hL3, hk⟩
  · have aw : ∃ h', F_X12_reads_b315 N (F_X12_reads_b11 N fu) (nI d) h = F_X12_reads_b11 N fu (nI d) 1 h' ∧ MaS n T m r F B0 c0 (j + 1) (C0 ++ [opc (kdf n T j)]) h' ∧ h'.1 112 = h.1 112 ∧ (∀ e, e ≠ d → h'.1 113 e = h.1 113 e) ∧ h'.1 113 d = (if L = 1 then 1 else if L = 0 then 0 else h.1 113 d) ∧ MFr c0 h h' := by
      have fin : ∃ h', F_X12_reads_b333 N (F_X12_reads_b11 N fu) (nI d) (nI (opc (kdf n T j))) h = F_X12_reads_b11 N fu (nI d) 1 h' ∧ MaS n T m r F B0 c0 (j + 1) (C0 ++ [opc (kdf n T j)]) h' ∧ h'.1 112 = h.1 112 ∧ (∀ e, e ≠ d → h'.1 113 e = h.1 113 e) ∧ h'.1 113 d = (if L = 1 then 1 else if L = 0 then 0 else h.1 113 d) ∧ MFr c0 h h' := by
        unfold F_X12_reads_b333
        rw [e2, bV_s, if_pos (nI_in0 hd (by omega)), nI_clamp (by omega), hb_e, show vp_nar .boolean (0 : Int32) = 0 from by decide]
        exact go _ (MaS_3 S2) (by rw [hs_o (by decide)]; exact o2) (fun e he => by simp [hs_1, he, c2]) (by rw [if_neg (by omega), if_pos hL0]; simp [hs_1]) (MFr_t f2 MFr_3)
      unfold F_X12_reads_b315
      rw [wa, bI_s]
      rcases hk with hk | hk
      · rw [if_pos hk, if_neg (by decide)]
        rw [hk] at fin ⊢
        exact fin
      · rw [if_neg (show ¬ kdf n T j = 19 by omega), if_pos rfl]
        rw [hk] at fin ⊢
        exact fin
    rw [s43, bI_s, if_neg (show ¬ kdf n T j = 8 by omega), if_pos rfl, s45, bI_s, if_neg (show ¬ kdf n T j = 9 by omega), if_pos rfl, s42, bI_s, if_neg (show ¬ kdf n T j = 10 by omega), if_pos rfl, s60, bI_s, if_neg (show ¬ kdf n T j = 6 by omega), if_pos rfl, s61, bI_s, if_neg (show ¬ kdf n T j = 7 by omega), if_pos rfl]
    unfold F_X12_reads_b295
    rw [wa, bI_s]
    rcases hk with hk | hk
    · rw [if_pos hk, if_neg (by decide)]
      exact aw
    · rw [if_neg (show ¬ kdf n T j = 19 by omega), if_pos rfl, wo, bI_s, if_pos hk, if_neg (by decide)]
      exact aw
  · have cw : ∃ h', F_X12_reads_b254 N (F_X12_reads_b11 N fu) (nI d) 0 h = F_X12_reads_b11 N fu (nI d) 1 h' ∧ MaS n T m r F B0 c0 (j + 1) (C0 ++ [opc (kdf n T j)]) h' ∧ h'.1 112 = h.1 112 ∧ (∀ e, e ≠ d → h'.1 113 e = h.1 113 e) ∧ h'.1 113 d = (if L = 1 then 1 else if L = 0 then 0 else h.1 113 d) ∧ MFr c0 h h' := by
      have fin : ∃ h', F_X12_reads_b280 N (F_X12_reads_b11 N fu) (nI d) (nI (opc (kdf n T j))) h = F_X12_reads_b11 N fu (nI d) 1 h' ∧ MaS n T m r F B0 c0 (j + 1) (C0 ++ [opc (kdf n T j)]) h' ∧ h'.1 112 = h.1 112 ∧ (∀ e, e ≠ d → h'.1 113 e = h.1 113 e) ∧ h'.1 113 d = (if L = 1 then 1 else if L = 0 then 0 else h.1 113 d) ∧ MFr c0 h h' := by
        unfold F_X12_reads_b280
        rw [e2, bV_s, if_pos (nI_in0 hd (by omega)), nI_clamp (by omega), hb_e, show vp_nar .boolean (1 : Int32) = 1 from by decide]
        exact go _ (MaS_3 S2) (by rw [hs_o (by decide)]; exact o2) (fun e he => by simp [hs_1, he, c2]) (by rw [if_pos hL1]; simp [hs_1]) (MFr_t f2 MFr_3)
      unfold F_X12_reads_b254
      rw [if_pos (nI_in0 hd (by omega)), nI_clamp (by omega), if_pos (hc hL1), s60, bI_s]
      rcases hk with hk | hk
      · rw [if_pos hk, if_neg (by decide)]
        rw [hk] at fin ⊢
        exact fin
      · rw [if_neg (show ¬ kdf n T j = 6 by omega), if_pos rfl]
        rw [hk] at fin ⊢
        exact fin
    rw [s43, bI_s, if_neg (show ¬ kdf n T j = 8 by omega), if_pos rfl, s45, bI_s, if_neg (show ¬ kdf n T j = 9 by omega), if_pos rfl, s42, bI_s, if_neg (show ¬ kdf n T j = 10 by omega), if_pos rfl, s60, bI_s]
    rcases hk with hk | hk
    · rw [if_pos hk, if_neg (by decide)]
      exact cw
    · rw [if_neg (show ¬ kdf n T j = 6 by omega), if_pos rfl, s61, bI_s, if_pos hk, if_neg (by decide)]
      exact cw
  · have pl := plain (by omega)
    have b197 : ∃ h', F_X12_reads_b197 N (F_X12_reads_b11 N fu) (nI d) h = F_X12_reads_b11 N fu (nI d) 1 h' ∧ MaS n T m r F B0 c0 (j + 1) (C0 ++ [opc (kdf n T j)]) h' ∧ h'.1 112 = h.1 112 ∧ (∀ e, e ≠ d → h'.1 113 e = h.1 113 e) ∧ h'.1 113 d = (if L = 1 then 1 else if L = 0 then 0 else h.1 113 d) ∧ MFr c0 h h' := by
      unfold F_X12_reads_b197
      rw [s43, bI_s]
      rcases hk with hk | hk
      · rw [if_pos hk, if_neg (by decide)]
        rw [hk] at pl ⊢
        exact pl
      · rw [if_neg (show ¬ kdf n T j = 8 by omega), if_pos rfl, s45, bI_s, if_pos hk, if_neg (by decide)]
        rw [hk] at pl ⊢
        exact pl
    rw [s43, bI_s]
    rcases hk with hk | hk
    · rw [if_pos hk, if_neg (by decide)]
      exact b197
    · rw [if_neg (show ¬ kdf n T j = 8 by omega), if_pos rfl, s45, bI_s, if_pos hk, if_neg (by decide)]
      exact b197
  · have pl := plain (by omega)
    rw [s43, bI_s, if_neg (show ¬ kdf n T j = 8 by omega), if_pos rfl, s45, bI_s, if_neg (show ¬ kdf n T j = 9 by omega), if_pos rfl, s42, bI_s, if_pos hk, if_neg (by decide)]
    unfold F_X12_reads_b197
    rw [s43, bI_s, if_neg (show ¬ kdf n T j = 8 by omega), if_pos rfl, s45, bI_s, if_neg (show ¬ kdf n T j = 9 by omega), if_pos rfl]
    rw [hk] at pl ⊢
    exact pl
/-- no operator stands there: a closing sign, or the end -/
theorem b11_end {N fu d j : Nat} (B : TB (n, T)) {C0 : List Nat} {h : PH} (S : MaS n T m r F B0 c0 j C0 h) (hd : d < 7) (g : EndC 0 (kdf n T j) (h.1 113 d)) : F_X12_reads_b11 N (fu + 1) (nI d) 0 h = if kdf n T j = 5 ∧ 0 < d then bV (F_X12_puts 29 h) (fun h12 => F_X12_reads_b370 N (F_X12_reads_b11 N fu) N (nI (d - 1)) 0 h12) else F_X12_reads_b390 N (nI d) h := by
  have s43 : F_X12_isSign 43 h = _ := mSign B S (c := 43) (by decide) (by omega)
  have s45 : F_X12_isSign 45 h = _ := mSign B S (c := 45) (by decide) (by omega)
  have s42 : F_X12_isSign 42 h = _ := mSign B S (c := 42) (by decide) (by omega)
  have s60 : F_X12_isSign 60 h = _ := mSign B S (c := 60) (by decide) (by omega)
  have s61 : F_X12_isSign 61 h = _ := mSign B S (c := 61) (by decide) (by omega)
  have s41 : F_X12_isSign 41 h = _ := mSign B S (c := 41) (by decide) (by omega)
  have wa : F_X12_isWord 1111 h = _ := mWord B S 7 (x := 1111) (by omega) (by decide)
  have wo : F_X12_isWord 423 h = _ := mWord B S 8 (x := 423) (by omega) (by decide)
  rw [show sgk 43 = 8 from by decide] at s43
  rw [show sgk 45 = 9 from by decide] at s45
  rw [show sgk 42 = 10 from by decide] at s42
  rw [show sgk 60 = 6 from by decide] at s60
  rw [show sgk 61 = 7 from by decide] at s61
  rw [show sgk 41 = 5 from by decide] at s41
  rw [show 12 + 7 = 19 from rfl] at wa
  rw [show 12 + 8 = 20 from rfl] at wo
  have k0 : ∀ k L, lvl k = L → L ≤ 3 → kdf n T j = k → L = 1 ∧ h.1 113 d = 1 := fun k L q1 q2 q3 => g L (by omega) q2 (by rw [q3]; exact q1)
  have n8 : ¬ kdf n T j = 8 := fun z => by have := k0 8 2 (by decide) (by omega) z; omega
  have n9 : ¬ kdf n T j = 9 := fun z => by have := k0 9 2 (by decide) (by omega) z; omega
  have n10 : ¬ kdf n T j = 10 := fun z => by have := k0 10 3 (by decide) (by omega) z; omega
  have n19 : ¬ kdf n T j = 19 := fun z => by have := k0 19 0 (by decide) (by omega) z; omega
  have n20 : ¬ kdf n T j = 20 := fun z => by have := k0 20 0 (by decide) (by omega) z; omega
  have b295 : F_X12_reads_b295 N (F_X12_reads_b11 N fu) (nI d) 0 h = if kdf n T j = 5 ∧ 0 < d then bV (F_X12_puts 29 h) (fun h12 => F_X12_reads_b370 N (F_X12_reads_b11 N fu) N (nI (d - 1)) 0 h12) else F_X12_reads_b390 N (nI d) h := by
    unfold F_X12_reads_b295
    rw [wa, bI_s, if_neg n19, if_pos rfl, wo, bI_s, if_neg n20, if_pos rfl, s41, bI_s]
    by_cases q : kdf n T j = 5
    · rw [if_pos q, if_neg (by decide)]
      by_cases q2 : 0 < d
      · rw [if_neg (fun z => by have := (n_le_l 0 (by omega) (by omega)).mp z; omega), if_pos ⟨q, q2⟩, sb_m1 q2]
        rfl
      · rw [if_pos ((n_le_l 0 (by omega) (by omega)).mpr (by omega)), if_neg (fun z => q2 z.2)]
    · rw [if_neg q, if_pos rfl, if_neg (fun z => q z.1)]
  have b254 : lvl (kdf n T j) = 1 → F_X12_reads_b254 N (F_X12_reads_b11 N fu) (nI d) 0 h = F_X12_reads_b295 N (F_X12_reads_b11 N fu) (nI d) 0 h := fun q => by
    unfold F_X12_reads_b254
    have := (g 1 (by omega) (by omega) q).2
    rw [if_pos (nI_in0 hd (by omega)), nI_clamp (by omega), if_neg (by rw [this]; decide)]
  rw [F_X12_reads_b11, if_pos rfl, s43, bI_s, if_neg n8, if_pos rfl, s45, bI_s, if_neg n9, if_pos rfl, s42, bI_s, if_neg n10, if_pos rfl, s60, bI_s]
  by_cases q6 : kdf n T j = 6
  · rw [if_pos q6, if_neg (by decide), b254 (by rw [q6]; decide), b295]
  · rw [if_neg q6, if_pos rfl, s61, bI_s]
    by_cases q7 : kdf n T j = 7
    · rw [if_pos q7, if_neg (by decide), b254 (by rw [q7]; decide), b295]
    · rw [if_neg q7, if_pos rfl, b295]
/-- the loop of a level -/
theorem mLoop {N d L : Nat} (B : TB (n, T)) (hN : 2000 ≤ N) (hd : d < 7) (hL : L ≤ 3) {sub : Nat → PO} (H : MEx n T m r F B0 c0 N d (L + 1) sub) : ∀ t j (C0 : List Nat) h fu (E C : List Nat), MaS n T m r F B0 c0 j (C0 ++ C) h → c0 + (C0 ++ C).length ≤ B0 + j → m + 2 < fu + j → popN (h.1 112) d = d → 2 * (1000 - t) ≤ j → t ≤ 1000 → (L = 1 → h.1 113 d = 0 ∨ lvl (kdf n T j) ≠ 1) → EndC (L + 1) (kdf n T j) (h.1 113 d) → match spLp (kdf n T) L sub t j E C with
  | .inl (k, j') => MFa n T c0 k j' h (F_X12_reads_b11 N fu (nI d) 0 h)
  | .inr (j', _, C') => ∃ h' fu' Cx, C' = C ++ Cx ∧ F_X12_reads_b11 N fu (nI d) 0 h = F_X12_reads_b11 N fu' (nI d) 0 h' ∧ j ≤ j' ∧ fu + j ≤ fu' + j' ∧ Cx.length + j ≤ j' ∧ MaS n T m r F B0 c0 j' (C0 ++ C') h' ∧ (∀ e, e ≤ d → h'.1 112 e = h.1 112 e) ∧ (∀ e, e < d → h'.1 113 e = h.1 113 e) ∧ (2 ≤ L → h'.1 113 d = h.1 113 d) ∧ EndC L (kdf n T j') (h'.1 113 d) ∧ MFr c0 h h' := by
  intro t
  induction t with
  | zero =>
    intro j C0 h fu E C S hC hf hp ht
    have : m ≤ 1000 := Nat.le_trans S.2.2.2.2.2.2.2.2.2.2.1 S.2.2.2.2.2.2.2.2.1
    have := S.2.1
    omega
  | succ t ih =>
    intro j C0 h fu E C S hC hf hp ht ht2 hc hE
    unfold spLp
    by_cases g : lvl (kdf n T j) = L
    · rw [if_pos g]
      obtain ⟨f, rfl⟩ : ∃ f, fu = f + 1 := ⟨fu - 1, by have := S.2.1; omega⟩
      have hc2 : L = 1 → h.1 113 d = 0 := fun q => by
        rcases hc q with z | z
        · exact z
        · rw [g] at z; exact absurd q z
      obtain ⟨h1, e1, S1, o1, c1, d1, f1⟩ := b11_op (N := N) (fu := f) B hN S hC hd hL g hc2
      have lenC : (C0 ++ C ++ [opc (kdf n T j)]).length = (C0 ++ C).length + 1 := by simp; omega
      have pre : popN (h1.1 112) d = d := by rw [o1]; exact hp
      have pre2 : L + 1 ≤ 1 → h1.1 113 d = 0 := fun q => by rw [d1, if_neg (by omega), if_pos (by omega)]
      have sb := H (j + 1) (C0 ++ C ++ [opc (kdf n T j)]) h1 f S1 (by omega) (by omega) pre pre2
      cases hsub : sub (j + 1) with
      | inl e =>
        obtain ⟨k, j'⟩ := e
        rw [hsub] at sb
        show MFa n T c0 k j' h (F_X12_reads_b11 N (f + 1) (nI d) 0 h)
        rw [e1]
        exact okI_m sb (fun v h' q => ⟨q.1, q.2.1, MFr_t f1 q.2.2⟩)
      | inr q =>
        obtain ⟨j', E', C'⟩ := q
        rw [hsub] at sb
        obtain ⟨h2, fu2, a1, a2, a3, a4, a5, a6, a7, ⟨a8, a9⟩, a10⟩ := sb
        have app : C0 ++ C ++ [opc (kdf n T j)] ++ C' = C0 ++ (C ++ opc (kdf n T j) :: C') := by simp
        rw [app] at a5
        have len2 : (C0 ++ (C ++ opc (kdf n T j) :: C')).length = (C0 ++ C).length + 1 + C'.length := by simp; omega
        show match (if L = 1 then (.inr (j', E ++ E' ++ [kdf n T j], C ++ opc (kdf n T j) :: C') : PO) else spLp (kdf n T) L sub t j' (E ++ E' ++ [kdf n T j]) (C ++ opc (kdf n T j) :: C')) with
          | .inl (k, j') => MFa n T c0 k j' h (F_X12_reads_b11 N (f + 1) (nI d) 0 h)
          | .inr (j', _, C') => ∃ h' fu' Cx, C' = C ++ Cx ∧ F_X12_reads_b11 N (f + 1) (nI d) 0 h = F_X12_reads_b11 N fu' (nI d) 0 h' ∧ j ≤ j' ∧ f + 1 + j ≤ fu' + j' ∧ Cx.length + j ≤ j' ∧ MaS n T m r F B0 c0 j' (C0 ++ C') h' ∧ (∀ e, e ≤ d → h'.1 112 e = h.1 112 e) ∧ (∀ e, e < d → h'.1 113 e = h.1 113 e) ∧ (2 ≤ L → h'.1 113 d = h.1 113 d) ∧ EndC L (kdf n T j') (h'.1 113 d) ∧ MFr c0 h h'
        by_cases g1 : L = 1
        · rw [if_pos g1]
          refine ⟨h2, fu2, opc (kdf n T j) :: C', rfl, by rw [e1, a1], by omega, by omega, by simp; omega, a5, fun e he => by rw [a6 e he, o1], fun e he => by rw [a7 e he, c1 e (by omega)], fun q => by omega, fun L' h1' h2' h3' => ?_, MFr_t f1 a10⟩
          by_cases q : L' = 1
          · refine ⟨q, ?_⟩
            rw [a8 (by omega), d1, if_pos g1]
          · exact a9 L' (by omega) h2' h3'
        · rw [if_neg g1]
          have rest := ih j' C0 h2 fu2 (E ++ E' ++ [kdf n T j]) (C ++ opc (kdf n T j) :: C') a5 (by rw [len2]; omega) (by omega) (by rw [popN_c d (fun e he => a6 e he)]; exact pre) (by omega) (by omega) (fun q => absurd q g1) a9
          cases hr : spLp (kdf n T) L sub t j' (E ++ E' ++ [kdf n T j]) (C ++ opc (kdf n T j) :: C') with
          | inl e =>
            obtain ⟨k, j3⟩ := e
            rw [hr] at rest
            show MFa n T c0 k j3 h (F_X12_reads_b11 N (f + 1) (nI d) 0 h)
            rw [e1, a1]
            exact okI_m rest (fun v h' q => ⟨q.1, q.2.1, MFr_t f1 (MFr_t a10 q.2.2)⟩)
          | inr q =>
            obtain ⟨j3, E3, C3⟩ := q
            rw [hr] at rest
            obtain ⟨h3, fu3, Cx, b0, b1, b2, b3, b4, b5, b6, b7, b8, b9, b10⟩ := rest
            refine ⟨h3, fu3, opc (kdf n T j) :: (C' ++ Cx), by rw [b0]; simp, by rw [e1, a1, b1], by omega, by omega, by simp; omega, b5, fun e he => by rw [b6 e he, a6 e he, o1], fun e he => by rw [b7 e he, a7 e he, c1 e (by omega)], fun q => ?_, b9, MFr_t f1 (MFr_t a10 b10)⟩
            rw [b8 q, a8 (by omega), d1, if_neg (by omega), if_neg (by omega)]
    · rw [if_neg g]
      refine ⟨h, fu, [], by simp, rfl, Nat.le_refl _, Nat.le_refl _, by simp, S, fun _ _ => rfl, fun _ _ => rfl, fun _ => rfl, fun L' h1 h2 h3 => ?_, MFr_0⟩
      by_cases q : L' = L
      · rw [q] at h3; exact absurd h3 g
      · exact hE L' (by omega) h2 h3
theorem mLv {N d L : Nat} (B : TB (n, T)) (hN : 2000 ≤ N) (hd : d < 7) (hL : L ≤ 3) {sub : Nat → PO} (H : MEx n T m r F B0 c0 N d (L + 1) sub) : MEx n T m r F B0 c0 N d L (spLv (kdf n T) L sub) := by
  intro i C0 h fu S hC hf hp hc
  have sb := H i C0 h fu S hC hf hp (fun q => hc (by omega))
  unfold spLv
  cases hsub : sub i with
  | inl e =>
    rw [hsub] at sb
    exact sb
  | inr q =>
    obtain ⟨j, E, C⟩ := q
    rw [hsub] at sb
    obtain ⟨h1, fu1, a1, a2, a3, a4, a5, a6, a7, ⟨a8, a9⟩, a10⟩ := sb
    have lp := mLoop B hN hd hL H 1000 j C0 h1 fu1 E C a5 (by simp; omega) (by omega) (by rw [popN_c d (fun e he => a6 e he)]; exact hp) (by omega) (by omega) (fun q => Or.inl (by rw [a8 (by omega)]; exact hc (by omega))) a9
    show match spLp (kdf n T) L sub 1000 j E C with
      | .inl (k, j) => MFa n T c0 k j h (F_X12_reads_b11 N fu (nI d) 1 h)
      | .inr (j, _, C) => MGo n T m r F B0 c0 N i d d fu C0 h j C (fun h' => (2 ≤ L → h'.1 113 d = h.1 113 d) ∧ EndC L (kdf n T j) (h'.1 113 d))
    cases hr : spLp (kdf n T) L sub 1000 j E C with
    | inl e =>
      obtain ⟨k, j3⟩ := e
      rw [hr] at lp
      show MFa n T c0 k j3 h (F_X12_reads_b11 N fu (nI d) 1 h)
      rw [a1]
      exact okI_m lp (fun v h' q => ⟨q.1, q.2.1, MFr_t a10 q.2.2⟩)
    | inr q =>
      obtain ⟨j3, E3, C3⟩ := q
      rw [hr] at lp
      obtain ⟨h3, fu3, Cx, b0, b1, b2, b3, b4, b5, b6, b7, b8, b9, b10⟩ := lp
      refine ⟨h3, fu3, by rw [a1, b1], by omega, by omega, by rw [b0]; simp; omega, b5, fun e he => by rw [b6 e he, a6 e he], fun e he => by rw [b7 e he, a7 e he], ⟨fun q => by rw [b8 q, a8 (by omega)], b9⟩, MFr_t a10 b10⟩
theorem mExpr {N d : Nat} (B : TB (n, T)) (hN : 2000 ≤ N) (hd : d < 7) {sub : Nat → PO} (H : MPt n T m r F B0 c0 N d sub) : MEx n T m r F B0 c0 N d 0 (spE (kdf n T) sub) := mLv B hN hd (by omega) (mLv B hN hd (by omega) (mLv B hN hd (by omega) (mLv B hN hd (by omega) (mEx4 H))))
end
