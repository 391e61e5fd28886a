/-! the reference's parser reads as told -/
def K6 : List (Nat × Nat) := [(103, 5), (103, 6), (103, 7), (103, 9), (103, 10), (103, 18)]
def MFr (c0 : Nat) (h h' : PH) : Prop := fq [111, 112, 113] K6 h h' ∧ (∀ t, t < c0 → h'.1 111 t = h.1 111 t) ∧ ∀ a b, (a, b) ≠ (103, 8) → h'.2 a b = h.2 a b
theorem MFr_0 {c0 : Nat} {h : PH} : MFr c0 h h := ⟨fq_0, fun _ _ => rfl, fun _ _ _ => rfl⟩
theorem MFr_t {c0 : Nat} {h h' h2 : PH} (a : MFr c0 h h') (b : MFr c0 h' h2) : MFr c0 h h2 := ⟨fq_t a.1 b.1, fun t ht => (b.2.1 t ht).trans (a.2.1 t ht), fun x y q => (b.2.2 x y q).trans (a.2.2 x y q)⟩
theorem MFr_n {c0 : Nat} {h h' : PH} (a : ntF h h') : MFr c0 h h' := ⟨fq_w a.1 (by simp) (by simp [K6]), fun t _ => a.1 111 t (by simp) (by simp), a.2⟩
theorem MFr_2 {c0 : Nat} {h : PH} {j : Nat} {x : Int32} : MFr c0 h (hs h 112 j x) := ⟨fq_s fq_0 (Or.inl (by decide)), fun t _ => by rw [hs_1, if_neg (by decide)], fun _ _ _ => rfl⟩
theorem MFr_3 {c0 : Nat} {h : PH} {j : Nat} {x : Int32} : MFr c0 h (hs h 113 j x) := ⟨fq_s fq_0 (Or.inl (by decide)), fun t _ => by rw [hs_1, if_neg (by decide)], fun _ _ _ => rfl⟩
def popN (op : Nat → Int32) : Nat → Nat
  | 0 => 0
  | e + 1 => if op (e + 1) = 1 then popN op e else e + 1
theorem popN_le {op : Nat → Int32} : ∀ d, popN op d ≤ d := by
  intro d
  induction d with
  | zero => exact Nat.le_refl _
  | succ d ih =>
    unfold popN
    split <;> omega
theorem popN_c {op op' : Nat → Int32} : ∀ d, (∀ e, e ≤ d → op' e = op e) → popN op' d = popN op d := by
  intro d
  induction d with
  | zero => intro _; rfl
  | succ d ih =>
    intro h
    unfold popN
    rw [h (d + 1) (Nat.le_refl _), ih (fun e he => h e (by omega))]
/-- the reference stands at token i; behind c0 it has put the codes C -/
def MaS (n : Nat) (T : Nat → Nat) (m : Nat) (r : Bool) (F : Nat) (B0 c0 i : Nat) (C : List Nat) (h : PH) : Prop := AtM n T (tkb n T i) h ∧ i ≤ m ∧ h.1 103 1 = nI F ∧ h.1 103 19 = (if r then 1 else 0) ∧ h.1 103 18 = nI (c0 + C.length) ∧ (∀ t, t < C.length → h.1 111 (c0 + t) = nI (C.getD t 0)) ∧ c0 + C.length ≤ B0 + i + 1 ∧ (B0 ≤ 3000 ∧ n ≤ 1000 ∧ F ≤ 6 ∧ m ≤ n ∧ tkb n T m = n ∧ ∀ i, i < m → tkb n T i < n)
section
variable {n : Nat} {T : Nat → Nat} {m : Nat} {r : Bool} {F B0 c0 : Nat}
theorem MaS_o {i : Nat} {C : List Nat} {h h' : PH} (S : MaS n T m r F B0 c0 i C h) (e : ∀ k j, k = 103 ∨ k = 104 ∨ k = 111 → h'.1 k j = h.1 k j) (e2 : h'.2 = h.2) : MaS n T m r F B0 c0 i C h' := by
  obtain ⟨⟨R, a5, a6, a7, a8, a9⟩, s1, s2, s3, s4, s5, s6, s7⟩ := S
  refine ⟨⟨⟨?_, fun j hj => ?_⟩, ?_, ?_, ?_, ?_, ?_⟩, s1, ?_, ?_, ?_, fun t ht => ?_, s6, s7⟩
  · rw [e _ _ (Or.inl rfl)]; exact R.1
  · rw [e _ _ (Or.inr (Or.inl rfl))]; exact R.2 j hj
  · rw [e _ _ (Or.inl rfl)]; exact a5
  · rw [e _ _ (Or.inl rfl)]; exact a6
  · rw [e _ _ (Or.inl rfl)]; exact a7
  · rw [e2]; exact a8
  · rw [e _ _ (Or.inl rfl)]; exact a9
  · rw [e _ _ (Or.inl rfl)]; exact s2
  · rw [e _ _ (Or.inl rfl)]; exact s3
  · rw [e _ _ (Or.inl rfl)]; exact s4
  · rw [e _ _ (Or.inr (Or.inr rfl))]; exact s5 t ht
theorem MaS_2 {i j : Nat} {x : Int32} {C : List Nat} {h : PH} (S : MaS n T m r F B0 c0 i C h) : MaS n T m r F B0 c0 i C (hs h 112 j x) := MaS_o S (fun k j q => by rw [hs_1, if_neg (by omega)]) rfl
theorem MaS_3 {i j : Nat} {x : Int32} {C : List Nat} {h : PH} (S : MaS n T m r F B0 c0 i C h) : MaS n T m r F B0 c0 i C (hs h 113 j x) := MaS_o S (fun k j q => by rw [hs_1, if_neg (by omega)]) rfl
theorem mnext {N : Nat} (B : TB (n, T)) (hN : 2000 ≤ N) {i : Nat} {C : List Nat} {h : PH} (S : MaS n T m r F B0 c0 i C h) (hi : i < m) : okV (F_X12_nextToken N h) (fun h' => MaS n T m r F B0 c0 (i + 1) C h' ∧ ntF h h') := by
  obtain ⟨A, s1, s2, s3, s4, s5, s6, s7⟩ := S
  refine okV_m (next_i B hN A) (fun h' q => ⟨⟨q.1, by omega, ?_, ?_, ?_, fun t ht => ?_, by omega, s7⟩, q.2⟩)
  · rw [q.2.1 103 1 (by simp) (by decide)]; exact s2
  · rw [q.2.1 103 19 (by simp) (by decide)]; exact s3
  · rw [q.2.1 103 18 (by simp) (by decide)]; exact s4
  · rw [q.2.1 111 _ (by simp) (by simp)]; exact s5 t ht
theorem mputs {i c : Nat} {C : List Nat} {h : PH} (S : MaS n T m r F B0 c0 i C h) (hC : c0 + C.length ≤ B0 + i) (hi : i < m) : okV (F_X12_puts (nI c) h) (fun h' => MaS n T m r F B0 c0 i (C ++ [c]) h' ∧ MFr c0 h h' ∧ h'.1 112 = h.1 112 ∧ h'.1 113 = h.1 113) := by
  obtain ⟨⟨R, a5, a6, a7, a8, a9⟩, s1, s2, s3, s4, s5, s6, s7⟩ := S
  have hb : c0 + C.length < 4000 := by omega
  unfold F_X12_puts
  rw [s4, if_pos (nI_in0 hb (by omega)), nI_clamp (by omega)]
  simp only [hb_e]
  have e1 : (hs h 111 (c0 + C.length) (nI c)).1 103 18 = nI (c0 + C.length) := by rw [hs_1, if_neg (by decide)]; exact s4
  rw [e1, nI_1]
  refine okV_s ⟨⟨⟨⟨?_, fun j hj => ?_⟩, ?_, ?_, ?_, ?_, ?_⟩, s1, ?_, ?_, ?_, fun t ht => ?_, by simp; omega, s7⟩, ⟨fq_s (fq_s fq_0 (Or.inl (by decide))) (Or.inr (by decide)), fun t ht => ?_, fun _ _ _ => rfl⟩, ?_, ?_⟩
  · simp [hs_1]; exact R.1
  · simp [hs_1]; exact R.2 j hj
  · simp [hs_1]; exact a5
  · simp [hs_1]; exact a6
  · simp [hs_1]; exact a7
  · exact a8
  · simp [hs_1]; exact a9
  · simp [hs_1]; exact s2
  · simp [hs_1]; exact s3
  · simp [hs_1]; rw [Nat.add_assoc]
  · simp at ht
    by_cases e : t = C.length
    · subst e
      simp [hs_1, List.getD_eq_getElem?_getD]
    · have e3 : t < C.length := by omega
      simp [hs_1, e, List.getD_eq_getElem?_getD, List.getElem?_append_left e3]
      rw [s5 t e3, List.getD_eq_getElem?_getD]
  · rw [hs_1, if_neg (by decide), hs_1, if_pos rfl, if_neg (by omega)]
  · rw [hs_o (by decide), hs_o (by decide)]
  · rw [hs_o (by decide), hs_o (by decide)]
theorem mfails {i k : Nat} {C : List Nat} {h : PH} (S : MaS n T m r F B0 c0 i C h) : okI (F_X12_fails (nI k) h) (fun x h' => x = 0 ∧ h'.1 103 10 = nI (k + 16 * tkb n T i) ∧ MFr c0 h h') := by
  unfold F_X12_fails
  rw [hb_e, S.1.2.2.1, show (16 : Int32) = nI 16 from rfl, pk_mul, nI_add]
  refine okI_s ⟨rfl, by simp [hs_1], fq_s fq_0 (Or.inr (by decide)), fun t ht => ?_, fun _ _ _ => rfl⟩
  rw [hs_1, if_neg (by decide)]
/-- a FAULT told by the reference -/
def MFa (n : Nat) (T : Nat → Nat) (c0 k j : Nat) (h : PH) (x : Option (Int32 × PH)) : Prop := okI x (fun v h' => v = 0 ∧ h'.1 103 10 = nI (k + 16 * tkb n T j) ∧ MFr c0 h h')
theorem mfail1 {N i k : Nat} {C : List Nat} {h : PH} (S : MaS n T m r F B0 c0 i C h) (kk : F_X12_fails (nI k) h = F_X12_fails (nI k) h) : MFa n T c0 k i h (bI (F_X12_fails (nI k) h) fun r1 h2 => if zb r1 = true then some (r1, h2) else none) := by
  refine okI_bI (okI_m (mfails S) (fun v h' q => ?_))
  rw [q.1, if_pos (by decide)]
  exact okI_s ⟨rfl, q.2⟩
theorem pop143 {N : Nat} {rc : Int32 → Int32 → PH → Option (Int32 × PH)} {x : Int32} {h : PH} : ∀ d fu, d < fu → d < 7 → F_X12_reads_b143 N rc fu (nI d) x h = F_X12_reads_b163 N rc (nI (popN (h.1 112) d)) x h := by
  intro d
  induction d with
  | zero =>
    intro fu hf _
    obtain ⟨f, rfl⟩ : ∃ f, fu = f + 1 := ⟨fu - 1, by omega⟩
    unfold F_X12_reads_b143
    rw [if_pos (by decide)]
    rfl
  | succ d ih =>
    intro fu hf hd
    obtain ⟨f, rfl⟩ : ∃ f, fu = f + 1 := ⟨fu - 1, by omega⟩
    unfold F_X12_reads_b143 popN
    rw [if_neg (fun z => by have := (n_le_l 0 (by omega) (by omega)).mp z; omega), if_pos (nI_in0 hd (by omega)), nI_clamp (by omega)]
    by_cases g : h.1 112 (d + 1) = 1
    · rw [if_pos g, if_pos g, ib_e, pk_m1, ih f (by omega) (by omega)]
    · rw [if_neg g, if_neg g]
theorem pop370 {N : Nat} {rc : Int32 → Int32 → PH → Option (Int32 × PH)} {x : Int32} {h : PH} : ∀ d fu, d < fu → d < 7 → F_X12_reads_b370 N rc fu (nI d) x h = F_X12_reads_b432 N rc (nI (popN (h.1 112) d)) x h := by
  intro d
  induction d with
  | zero =>
    intro fu hf _
    obtain ⟨f, rfl⟩ : ∃ f, fu = f + 1 := ⟨fu - 1, by omega⟩
    unfold F_X12_reads_b370
    rw [if_pos (by decide)]
    rfl
  | succ d ih =>
    intro fu hf hd
    obtain ⟨f, rfl⟩ : ∃ f, fu = f + 1 := ⟨fu - 1, by omega⟩
    unfold F_X12_reads_b370 popN
    rw [if_neg (fun z => by have := (n_le_l 0 (by omega) (by omega)).mp z; omega), if_pos (nI_in0 hd (by omega)), nI_clamp (by omega)]
    by_cases g : h.1 112 (d + 1) = 1
    · rw [if_pos g, if_pos g, ib_e, pk_m1, ih f (by omega) (by omega)]
    · rw [if_neg g, if_neg g]
/-- the signs and words that the loop asks for, at token i -/
theorem mSign {i : Nat} {C : List Nat} {h : PH} (B : TB (n, T)) (S : MaS n T m r F B0 c0 i C h) {c : Nat} (hc : sgk c ≠ 1) (hc2 : c < 128) : F_X12_isSign (nI c) h = some (if kdf n T i = sgk c then 1 else 0, h) := isSign_x B S.1 (tkb_le i).2 hc hc2
theorem mWord {i : Nat} {C : List Nat} {h : PH} (B : TB (n, T)) (S : MaS n T m r F B0 c0 i C h) (k : Nat) {x : Nat} (hi : k < 23) (hx : wnums.getD k 0 = x) : F_X12_isWord (lN x) h = some (if kdf n T i = 12 + k then 1 else 0, h) := isWord_x B S.1 (tkb_le i).2 k hi hx
theorem mEnd {i : Nat} {C : List Nat} {h : PH} (S : MaS n T m r F B0 c0 i C h) (hk : kdf n T i ≠ 0) : i < m := by
  have := S.2.1
  by_cases e : i = m
  · exact absurd ((kd_end ⟨S.2.2.2.2.2.2.2.2.2.2.1, S.2.2.2.2.2.2.2.2.2.2.2.1, S.2.2.2.2.2.2.2.2.2.2.2.2⟩ S.2.1).mpr e) hk
  · omega
/-- what stands behind success: the loop goes on at token j, with depth d', not wanting -/
def MGo (n : Nat) (T : Nat → Nat) (m : Nat) (r : Bool) (F B0 c0 N : Nat) (i d d' fu : Nat) (C0 : List Nat) (h : PH) (j : Nat) (C : List Nat) (Q : PH → Prop) : Prop := ∃ h' fu', F_X12_reads_b11 N fu (nI d) 1 h = F_X12_reads_b11 N fu' (nI d') 0 h' ∧ i < j ∧ fu + i ≤ fu' + j ∧ C.length + i ≤ j ∧ MaS n T m r F B0 c0 j (C0 ++ C) h' ∧ (∀ e, e ≤ d → h'.1 112 e = h.1 112 e) ∧ (∀ e, e < d → h'.1 113 e = h.1 113 e) ∧ Q h' ∧ MFr c0 h h'
/-- PART at depth d -/
def MPt (n : Nat) (T : Nat → Nat) (m : Nat) (r : Bool) (F B0 c0 N d : Nat) (sub : Nat → PO) : Prop := ∀ i C0 h fu, MaS n T m r F B0 c0 i C0 h → c0 + C0.length ≤ B0 + i → m + 2 < fu + i → match sub i with
  | .inl (k, j) => MFa n T c0 k j h (F_X12_reads_b11 N fu (nI d) 1 h)
  | .inr (j, _, C) => MGo n T m r F B0 c0 N i d (popN (h.1 112) d) fu C0 h j C (fun h' => h'.1 113 d = h.1 113 d)
theorem b11_want {N fu : Nat} {d : Nat} {i : Nat} {C : List Nat} {h : PH} (B : TB (n, T)) (S : MaS n T m r F B0 c0 i C h) : F_X12_reads_b11 N (fu + 1) (nI d) 1 h = if begs r (kdf n T i) then F_X12_reads_b65 N (F_X12_reads_b11 N fu) (nI d) 1 (nI (fMk r (kdf n T i) (vlf n T i))) (if kdf n T i = 18 then 1 else 0) (if kdf n T i = 4 then 1 else 0) h else F_X12_reads_b59 N h := by
  have kn := kd_num B S.1 (tkb_le i).2
  have fx := fact_x B S.1 (tkb_le i).2 S.2.2.2.1
  have kl : kdf n T i < 35 := kd_le n T (tkb n T i)
  have k3 : kdf n T i = 3 → vlf n T i < 8 := (kd2 n T (tkb n T i)).2
  have w := mWord B S 6 (x := 10631) (by omega) (by decide)
  have s := mSign B S (c := 40) (by decide) (by omega)
  rw [F_X12_reads_b11, if_neg (by decide), show F_X12_fact h = _ from fx, bI_s, show F_X12_isWord 10631 h = _ from w, bI_s, show F_X12_isSign 40 h = _ from s, bI_s]
  rw [show sgk 40 = 4 from by decide, show 12 + 6 = 18 from rfl]
  have fb : fMk r (kdf n T i) (vlf n T i) < 40 := by
    unfold fMk
    repeat' split
    all_goals omega
  have f0 : nI (fMk r (kdf n T i) (vlf n T i)) = 0 ↔ fMk r (kdf n T i) (vlf n T i) = 0 := n_eq_l 0 (by omega) (by omega)
  have fm : fMk r (kdf n T i) (vlf n T i) = 0 ↔ ¬ (if r then 25 ≤ kdf n T i ∧ kdf n T i ≤ 34 else kdf n T i = 3 ∨ (21 ≤ kdf n T i ∧ kdf n T i ≤ 24)) := by
    unfold fMk
    cases r with
    | true =>
      simp
      omega
    | false =>
      simp only [Bool.false_eq_true, if_false]
      by_cases a1 : kdf n T i = 3
      · rw [if_pos a1]; omega
      · rw [if_neg a1]
        by_cases a2 : kdf n T i = 23
        · rw [if_pos a2]; omega
        · rw [if_neg a2]
          by_cases a3 : kdf n T i = 24
          · rw [if_pos a3]; omega
          · rw [if_neg a3]
            by_cases a4 : kdf n T i = 21
            · rw [if_pos a4]; omega
            · rw [if_neg a4]
              by_cases a5 : kdf n T i = 22
              · rw [if_pos a5]; omega
              · rw [if_neg a5]; omega
  unfold begs
  show (if nI (fMk r (kdf n T i) (vlf n T i)) = 0 then _ else _) = _
  by_cases g0 : fMk r (kdf n T i) (vlf n T i) = 0
  · rw [if_pos (f0.mpr g0)]
    have g0' := fm.mp g0
    by_cases g1 : kdf n T i = 18
    · rw [if_pos g1, if_neg (by decide), if_pos (decide_eq_true (Or.inr (Or.inl g1)))]
      rfl
    · rw [if_neg g1, if_pos rfl]
      by_cases g2 : kdf n T i = 4
      · rw [if_pos g2, if_neg (by decide), if_pos (decide_eq_true (Or.inr (Or.inr (Or.inl g2))))]
        rfl
      · rw [if_neg g2, if_pos rfl]
        by_cases g3 : kdf n T i = 2
        · rw [if_pos (kn.1.mpr g3), if_pos (decide_eq_true (Or.inl g3))]
          rfl
        · rw [if_neg (fun z => g3 (kn.1.mp z)), if_neg (fun z => by
            rcases of_decide_eq_true z with q | q | q | q
            · exact g3 q
            · exact g1 q
            · exact g2 q
            · exact g0' q)]
  · rw [if_neg (fun z => g0 (f0.mp z)), if_pos (decide_eq_true (Or.inr (Or.inr (Or.inr (Classical.not_not.mp (fun z => g0 (fm.mpr z)))))))]
    rfl
theorem b99_x {N fu : Nat} (B : TB (n, T)) (hN : 2000 ≤ N) {d i c o : Nat} {x4 : Int32} {C0 : List Nat} {h : PH} (S : MaS n T m r F B0 c0 i C0 h) (hC : c0 + C0.length ≤ B0 + i) (hi : i < m) (hd : d < 5) (ho : o = if x4 = 0 then 2 else 1) : ∃ h', F_X12_reads_b99 N (F_X12_reads_b11 N fu) (nI d) 1 x4 (nI c) h = F_X12_reads_b11 N fu (nI (d + 1)) 1 h' ∧ MaS n T m r F B0 c0 (i + 1) (C0 ++ [c]) h' ∧ h'.1 112 (d + 1) = nI o ∧ h'.1 113 (d + 1) = 0 ∧ (∀ e, e ≤ d → h'.1 112 e = h.1 112 e) ∧ (∀ e, e ≤ d → h'.1 113 e = h.1 113 e) ∧ MFr c0 h h' := by
  unfold F_X12_reads_b99
  obtain ⟨h2, e2, S2, f2, o2, c2⟩ := mputs (c := c) S hC hi
  rw [e2, bV_s, ib_e, nI_1]
  have key : ∀ s0 : Nat, s0 = o → ∃ h', F_X12_reads_b120 N (F_X12_reads_b11 N fu) (nI (d + 1)) 1 (nI s0) (nI (d + 1)) h2 = F_X12_reads_b11 N fu (nI (d + 1)) 1 h' ∧ MaS n T m r F B0 c0 (i + 1) (C0 ++ [c]) h' ∧ h'.1 112 (d + 1) = nI o ∧ h'.1 113 (d + 1) = 0 ∧ (∀ e, e ≤ d → h'.1 112 e = h.1 112 e) ∧ (∀ e, e ≤ d → h'.1 113 e = h.1 113 e) ∧ MFr c0 h h' := by
    intro s0 hs0
    unfold F_X12_reads_b120 F_X12_reads_b163
    simp only [hb_e]
    rw [if_pos (nI_in0 (by omega) (by omega)), nI_clamp (by omega), if_pos (nI_in0 (by omega) (by omega))]
    rw [show vp_nar .boolean (0 : Int32) = 0 from by decide]
    obtain ⟨h', e3, S3, f3⟩ := mnext B hN (MaS_3 (j := d + 1) (x := 0) (MaS_2 (j := d + 1) (x := nI s0) S2)) hi
    refine ⟨h', by rw [e3]; rfl, S3, ?_, ?_, fun e he => ?_, fun e he => ?_, MFr_t f2 (MFr_t MFr_2 (MFr_t MFr_3 (MFr_n f3)))⟩
    · rw [f3.1 112 _ (by simp) (by simp)]; simp [hs_1, hs0]
    · rw [f3.1 113 _ (by simp) (by simp)]; simp [hs_1]
    · rw [f3.1 112 _ (by simp) (by simp)]
      have : e ≠ d + 1 := by omega
      simp [hs_1, this, o2]
    · rw [f3.1 113 _ (by simp) (by simp)]
      have : e ≠ d + 1 := by omega
      simp [hs_1, this, c2]
  by_cases g : x4 = 0
  · rw [if_pos g]
    rw [if_pos g] at ho
    exact key 2 ho.symm
  · rw [if_neg g]
    rw [if_neg g] at ho
    exact key 1 ho.symm
/-- a fact or a NUMBER: codes put, nots popped, the next token -/
theorem b143_x {N fu : Nat} (B : TB (n, T)) (hN : 2000 ≤ N) {d i : Nat} {C : List Nat} {h : PH} (S : MaS n T m r F B0 c0 i C h) (hi : i < m) (hd : d < 7) : ∃ h', F_X12_reads_b143 N (F_X12_reads_b11 N fu) N (nI d) 0 h = F_X12_reads_b11 N fu (nI (popN (h.1 112) d)) 0 h' ∧ MaS n T m r F B0 c0 (i + 1) C h' ∧ ntF h h' := by
  rw [pop143 d N (by omega) hd]
  unfold F_X12_reads_b163
  obtain ⟨h', e3, S3, f3⟩ := mnext B hN S hi
  exact ⟨h', by rw [e3]; rfl, S3, f3⟩
/-- PART that is a NUMBER or a fact, at depth d below 5 -/
theorem mLeaf {N fu : Nat} (B : TB (n, T)) (hN : 2000 ≤ N) {d i j c : Nat} {C0 : List Nat} {h h1 : PH} {x : Int32} (e0 : F_X12_reads_b11 N (fu + 1) (nI d) 1 h = F_X12_reads_b143 N (F_X12_reads_b11 N fu) N (nI d) 0 h1) (hij : i ≤ j) (S1 : MaS n T m r F B0 c0 j (C0 ++ [c]) h1) (f1 : MFr c0 h h1) (o1 : h1.1 112 = h.1 112) (c1 : h1.1 113 = h.1 113) (hj : j < m) (hd : d < 7) : MGo n T m r F B0 c0 N i d (popN (h.1 112) d) (fu + 1) C0 h (j + 1) [c] (fun h' => h'.1 113 d = h.1 113 d) := by
  obtain ⟨h', e3, S3, f3⟩ := b143_x (N := N) (fu := fu) B hN S1 hj hd
  rw [o1] at e3
  refine ⟨h', fu, by rw [e0, e3], by omega, by omega, by simp; omega, S3, fun e he => ?_, fun e he => ?_, ?_, MFr_t f1 (MFr_n f3)⟩
  · rw [f3.1 112 _ (by simp) (by simp), o1]
  · rw [f3.1 113 _ (by simp) (by simp), c1]
  · show h'.1 113 d = h.1 113 d
    rw [f3.1 113 _ (by simp) (by simp), c1]
theorem readsFact_1 {N : Nat} {f c : Nat} {i : Nat} {C0 : List Nat} {h : PH} (S : MaS n T m r F B0 c0 i C0 h) (hC : c0 + C0.length ≤ B0 + i) (hi : i < m) (hf : f < 11) (hc : (f = 0 ∧ h.1 103 9 = nI (c - 100) ∧ 100 ≤ c) ∨ (0 < f ∧ c = f)) : okI (F_X12_readsFact N (nI f) h) (fun v h' => v = 1 ∧ MaS n T m r F B0 c0 i (C0 ++ [c]) h' ∧ MFr c0 h h' ∧ h'.1 112 = h.1 112 ∧ h'.1 113 = h.1 113) := by
  unfold F_X12_readsFact F_X12_readsFact_b22
  rw [if_neg (fun z => by have := (l_le_n 11 (by omega) (by omega)).mp z; omega)]
  obtain ⟨h2, e2, q2⟩ := mputs (c := c) S hC hi
  rcases hc with ⟨g, g2, g3⟩ | ⟨g, g2⟩
  · rw [if_pos (by rw [g]; decide), g2, show (100 : Int32) = nI 100 from rfl, nI_add, show 100 + (c - 100) = c by omega, e2, bV_s]
    exact okI_s ⟨rfl, q2⟩
  · rw [if_neg (fun z => by have := (n_le_l 0 (by omega) (by omega)).mp z; omega), ← g2, e2, bV_s]
    exact okI_s ⟨rfl, q2⟩
theorem readsFact_2 {N : Nat} (B : TB (n, T)) (hN : 2000 ≤ N) {f c : Nat} {i : Nat} {C0 : List Nat} {h : PH} (S : MaS n T m r F B0 c0 i C0 h) (hC : c0 + C0.length ≤ B0 + i) (hi : i < m) (hf : (f = 11 ∧ c = 40) ∨ (f = 12 ∧ c = 50)) : okI (F_X12_readsFact N (nI f) h) (fun v h' => if kdf n T (i + 1) = 2 then (if vlf n T (i + 1) < F then v = 1 ∧ i + 1 < m ∧ MaS n T m r F B0 c0 (i + 1) (C0 ++ [c + vlf n T (i + 1)]) h' ∧ MFr c0 h h' ∧ h'.1 112 = h.1 112 ∧ h'.1 113 = h.1 113 else v = 0 ∧ h'.1 103 10 = nI (4 + 16 * tkb n T (i + 1)) ∧ MFr c0 h h') else v = 0 ∧ h'.1 103 10 = nI (1 + 16 * tkb n T (i + 1)) ∧ MFr c0 h h') := by
  unfold F_X12_readsFact F_X12_readsFact_b86
  rw [if_pos ((l_le_n 11 (by omega) (by omega)).mpr (by omega))]
  obtain ⟨h2, e2, S2, f2⟩ := mnext B hN S hi
  have kn := kd_num B S2.1 (tkb_le (i + 1)).2
  rw [e2, bV_s]
  have hF : F ≤ 6 := S.2.2.2.2.2.2.2.2.2.1
  by_cases g : kdf n T (i + 1) = 2
  · have hv := kn.2.2.2.1 g
    have hv1 : h2.1 103 9 = nI (vlf n T (i + 1)) := hv.1
    have hv2 : vlf n T (i + 1) < 10000 := hv.2
    have him : i + 1 < m := mEnd S2 (by omega)
    rw [if_pos (kn.1.mpr g), hv1, S2.2.2.1]
    by_cases g2 : vlf n T (i + 1) < F
    · rw [if_pos (nI_lt g2 (by omega))]
      obtain ⟨h3, e3, S3, f3, o3, c3⟩ := mputs (c := c + vlf n T (i + 1)) S2 (by omega) him
      have fin : okI (bV (F_X12_puts (nI (c + vlf n T (i + 1))) h2) fun h2 => some (1, h2)) (fun v h' => if kdf n T (i + 1) = 2 then (if vlf n T (i + 1) < F then v = 1 ∧ i + 1 < m ∧ MaS n T m r F B0 c0 (i + 1) (C0 ++ [c + vlf n T (i + 1)]) h' ∧ MFr c0 h h' ∧ h'.1 112 = h.1 112 ∧ h'.1 113 = h.1 113 else v = 0 ∧ h'.1 103 10 = nI (4 + 16 * tkb n T (i + 1)) ∧ MFr c0 h h') else v = 0 ∧ h'.1 103 10 = nI (1 + 16 * tkb n T (i + 1)) ∧ MFr c0 h h') := by
        rw [e3, bV_s]
        refine okI_s ?_
        rw [if_pos g, if_pos g2]
        refine ⟨rfl, him, S3, MFr_t (MFr_n f2) f3, ?_, ?_⟩
        · rw [o3]; funext t; exact f2.1 112 t (by simp) (by simp)
        · rw [c3]; funext t; exact f2.1 113 t (by simp) (by simp)
      rcases hf with ⟨q1, q2⟩ | ⟨q1, q2⟩
      · rw [if_pos (by rw [q1]; rfl), show (40 : Int32) = nI 40 from rfl, nI_add, ← q2]
        exact fin
      · rw [if_neg (by rw [q1]; decide), show (50 : Int32) = nI 50 from rfl, nI_add, ← q2]
        exact fin
    · rw [if_neg (nI_nlt (by omega) (by omega))]
      refine okI_bI (okI_m (mfails (k := 4) S2) (fun v h' q => ?_))
      rw [q.1, if_pos (by decide)]
      refine okI_s ?_
      rw [if_pos g, if_neg g2]
      exact ⟨rfl, q.2.1, MFr_t (MFr_n f2) q.2.2⟩
  · rw [if_neg (fun z => g (kn.1.mp z))]
    refine okI_bI (okI_m (mfails (k := 1) S2) (fun v h' q => ?_))
    rw [q.1, if_pos (by decide)]
    refine okI_s ?_
    rw [if_neg g]
    exact ⟨rfl, q.2.1, MFr_t (MFr_n f2) q.2.2⟩
theorem MFa_e {k j : Nat} {h : PH} {x y : Option (Int32 × PH)} (e : x = y) (q : MFa n T c0 k j h y) : MFa n T c0 k j h x := by rw [e]; exact q
theorem mPart0 {N : Nat} (B : TB (n, T)) : MPt n T m r F B0 c0 N 5 (spP r F (kdf n T) (vlf n T) 0) := by
  intro i C0 h fu S hC hfu
  obtain ⟨f, rfl⟩ : ∃ f, fu = f + 1 := ⟨fu - 1, by have := S.2.1; omega⟩
  have w := b11_want (N := N) (fu := f) (d := 5) B S
  unfold spP
  cases hb : begs r (kdf n T i) with
  | false =>
    rw [hb, if_neg (show ¬ false = true by decide)] at w
    rw [if_neg (show ¬ false = true by decide)]
    exact MFa_e w (mfail1 (k := 1) (N := N) S rfl)
  | true =>
    rw [hb, if_pos (show true = true from rfl)] at w
    rw [if_pos (show true = true from rfl)]
    refine MFa_e w ?_
    unfold F_X12_reads_b65
    rw [if_pos (by decide)]
    exact mfail1 (k := 5) (N := N) S rfl
end
