/-! the class's tokens -/
theorem latin_x {si : Nat} {h : PH} : F_J0_isLatin1_aae02 si h = some (1, h) := by
  unfold F_J0_isLatin1_aae02
  rw [if_neg (by decide), if_pos rfl]
theorem coder_x {si : Nat} {h : PH} : F_J0_coder_7d493 si h = some (0, h) := by
  unfold F_J0_coder_7d493
  rw [if_neg (by decide), if_pos (by decide)]
theorem WL_len : WL.length = 108 := by decide +kernel
theorem len_x {h : PH} : F_J0_length_8abf5 1 h = some (nI 108, h) := by
  unfold F_J0_length_8abf5
  rw [coder_x, bI_s]
  have : (nI (lenS.getD 1 0)) >>> ((0 : Int32) &&& 31) = nI 108 := by decide +kernel
  rw [this]
theorem WL_b : ∀ i, i < 108 → (bytS.getD 1 []).getD i 0 = nI (WL.getD i 0) ∧ WL.getD i 0 < 128 := by decide +kernel
theorem lenS1 : lenS.getD 1 0 = 108 := by decide +kernel
theorem charAt_x {i : Nat} (hi : i < 108) {h : PH} : F_J0_charAt_5068e 1 (nI i) h = some (nI (WL.getD i 0), h) := by
  unfold F_J0_charAt_5068e F_J1_charAt_3b067 F_J0_checkIndex_df160
  have hb := WL_b i hi
  rw [latin_x, bI_s, if_neg (by decide), lenS1, if_neg (nI_pos (by omega)), if_pos (nI_lt hi (by omega)), bV_s, if_pos (nI_in0 hi (by omega)), nI_clamp (by omega), hb.1]
  have e : ((nI (WL.getD i 0) &&& 255).toUInt32 % 65536).toInt32 = nI (WL.getD i 0) := by
    rw [sc_c2, pk_andN (by omega) 8 (by decide), Nat.mod_eq_of_lt (by omega)]
  rw [e, if_pos (pk_charN (by omega)).1, bI_s, if_pos (pk_charN (by omega)).1]
def ixo (x : Int32) : Nat → Nat → Int32
  | 0, _ => -1
  | k + 1, j => if (bytS.getD 0 []).getD j 0 = x then nI j else ixo x k (j + 1)
theorem ixo_c : ∀ c, c < 128 → (if 0 ≤ ixo ((nI c).toInt8.toInt32) 8 0 then (4 : Int32) + ixo ((nI c).toInt8.toInt32) 8 0 else 1) = nI (sgk c) := by decide +kernel
theorem lenS0 : lenS.getD 0 0 = 8 := by decide +kernel
theorem ixo_l {N : Nat} {x : Int32} {h : PH} : ∀ n j, j ≤ 8 → 8 < n + j → F_J1_indexOfChar_4cfef_b7 N 0 n (nI 8) x (nI j) h = some (ixo x (8 - j) j, h) := by
  intro n
  induction n with
  | zero => intro j h1 h2; omega
  | succ n ih =>
    intro j h1 h2
    unfold F_J1_indexOfChar_4cfef_b7
    by_cases g : j = 8
    · subst g
      rw [if_pos (by decide)]
      rfl
    · rw [if_neg (nI_ge (by omega) (by omega)), lenS0, if_pos (nI_in0 (by omega) (by omega)), nI_clamp (by omega), ib_e, nI_1, show 8 - j = (8 - (j + 1)) + 1 by omega, ixo]
      by_cases g2 : (bytS.getD 0 []).getD j 0 = x
      · rw [if_pos g2, if_pos g2]
      · rw [if_neg g2, if_neg g2]
        exact ih (j + 1) (by omega) (by omega)
theorem indexOf_x {N c : Nat} (hN : 100 ≤ N) (hc : c < 128) {h : PH} : F_J0_indexOf_0f7a4 N 0 (nI c) h = some (ixo ((nI c).toInt8.toInt32) 8 0, h) := by
  unfold F_J0_indexOf_0f7a4 F_J0_indexOf_7cf53 F_J1_indexOf_4cfef F_J1_canEncode_9a6ad F_J0_length_8abf5 F_J1_indexOfChar_4cfef
  have e1 : (nI (lenS.getD 0 0)) >>> ((0 : Int32) &&& 31) = nI 8 := by decide +kernel
  have e2 : imax (0 : Int32) 0 = nI 0 := by decide
  have e3 : imin (nI 8) (nI (lenS.getD 0 0)) = nI 8 := by decide +kernel
  rw [latin_x, bI_s, if_neg (by decide), coder_x, bI_s, bI_s, e1, if_neg (nI_pos (by omega)), if_neg (fun z => by have := (l_lt_n 255 (by omega) (by omega)).mp z; omega), bI_s, if_neg (by decide)]
  simp only [ib_e]
  rw [e2, e3, if_pos (by decide), ixo_l N 0 (by omega) (by omega)]
  rfl
section
variable {n : Nat} {T : Nat → Nat} {h : PH}
theorem isL_c (B : TB (n, T)) (C : TpC (n, T) h) {p : Nat} (hp : p < n) : isL T p = true ↔ ¬ h.1 2 p < 97 ∧ ¬ 122 < h.1 2 p := by
  have h1 : T p < 256 := by have := of_decide_eq_true (B.2 p hp); dsimp only at this; omega
  have C2 : ∀ i, i < n → h.1 2 i = nI (T i) := C.2
  rw [C2 p hp]
  unfold isL
  rw [decide_eq_true_iff, show (97 : Int32) = nI 97 from rfl, show (122 : Int32) = nI 122 from rfl, nI_ltI (by omega) (by omega), nI_ltI (by omega) (by omega)]
  omega
theorem isD_c (B : TB (n, T)) (C : TpC (n, T) h) {p : Nat} (hp : p < n) : isD T p = true ↔ ¬ h.1 2 p < 48 ∧ ¬ 57 < h.1 2 p := by
  have h1 : T p < 256 := by have := of_decide_eq_true (B.2 p hp); dsimp only at this; omega
  have C2 : ∀ i, i < n → h.1 2 i = nI (T i) := C.2
  rw [C2 p hp]
  unfold isD
  rw [decide_eq_true_iff, show (48 : Int32) = nI 48 from rfl, show (57 : Int32) = nI 57 from rfl, nI_ltI (by omega) (by omega), nI_ltI (by omega) (by omega)]
  omega
theorem endOfRun_l (B : TB (n, T)) (C : TpC (n, T) h) {N : Nat} {lo hi : Int32} {P : Nat → Bool} (hP : ∀ p, p < n → (P p = true ↔ ¬ h.1 2 p < lo ∧ ¬ hi < h.1 2 p)) : ∀ k p, p ≤ n → n < k + p → F_X9_endOfRun_b3 N k lo hi (nI p) h = some (nI (eor P n p), h) := by
  intro k
  induction k with
  | zero => intro p h1 h2; omega
  | succ k ih =>
    intro p h1 h2
    have b1 : n ≤ 1000 := B.1
    unfold F_X9_endOfRun_b3
    rw [C.1]
    by_cases g : p = n
    · subst g
      rw [if_pos (nI_le (Nat.le_refl _) (by dsimp only; omega)), eor_n (Nat.le_refl _)]
    · rw [if_neg (nI_ge (by dsimp only; omega) (by dsimp only; omega)), if_pos (nI_in0 (by omega) (by omega)), if_pos (nI_in0 (by omega) (by omega)), nI_clamp (by omega)]
      have hp := hP p (by omega)
      by_cases g1 : h.1 2 p < lo
      · rw [if_pos g1, eor_f (by cases e : P p with | false => rfl | true => exact absurd g1 (hp.mp e).1)]
      · rw [if_neg g1]
        by_cases g2 : hi < h.1 2 p
        · rw [if_pos g2, eor_f (by cases e : P p with | false => rfl | true => exact absurd g2 (hp.mp e).2)]
        · rw [if_neg g2, ib_e, nI_1, ih (p + 1) (by omega) (by omega), ← eor_t (by omega) (hp.mpr ⟨g1, g2⟩)]
/-- so far the letters are the same -/
def mtc (T : Nat → Nat) (b e : Nat) (w : List Nat) : Bool := decide (slc T (e - b) b = w)
theorem wkw (B : TB (n, T)) (C : TpC (n, T) h) {N b e : Nat} (hbe : b ≤ e) (he : e ≤ n) : ∀ (w rest : List Nat) (i k K j : Nat) (sm : Bool), WL.drop i = w ++ 32 :: rest → (∀ c, c ∈ w → c ≠ 32 ∧ c < 128) → b + j ≤ e → i + w.length < 108 → K < 1000 → F_X9_wordKind_b12 N (k + w.length + 1) (nI b) (nI e) (nI K) (nI (b + j)) (if sm then 1 else 0) (nI i) h = if sm = true ∧ slc T (e - (b + j)) (b + j) = w then some (nI K, h) else F_X9_wordKind_b12 N k (nI b) (nI e) (nI (K + 1)) (nI b) 1 (nI (i + w.length + 1)) h := by
  have b1 : n ≤ 1000 := B.1
  intro w
  induction w with
  | nil =>
    intro rest i k K j sm hd hw hj hi hK
    rw [List.nil_append] at hd
    have hc : WL.getD i 0 = 32 := by
      rw [List.getD_eq_getElem?_getD, ← Nat.add_zero i, ← List.getElem?_drop, hd]
      rfl
    rw [List.length_nil, Nat.add_zero, Nat.add_zero]
    rw [F_X9_wordKind_b12]
    rw [len_x, bI_s, if_neg (nI_ge (by simp at hi; omega) (by omega)), charAt_x (by simp at hi; omega), bI_s, hc, if_pos (show nI 32 = 32 from rfl)]
    unfold F_X9_wordKind_b51 F_X9_wordKind_b98
    simp only [ib_e, nI_1]
    cases sm with
    | false => rw [if_pos (by decide), if_neg (fun q => by cases q.1)]
    | true =>
      rw [if_neg (by decide)]
      by_cases g : b + j = e
      · rw [if_pos (by rw [g]), if_pos ⟨rfl, by rw [g, Nat.sub_self]; rfl⟩]
      · rw [if_neg (fun q => g ((nI_eq (by omega) (by omega)).mp q)), if_neg (fun q => by
          have := congrArg List.length q.2
          rw [slc_len] at this
          simp at this
          omega)]
  | cons c w ih =>
    intro rest i k K j sm hd hw hj hi hK
    rw [List.cons_append] at hd
    have hc : WL.getD i 0 = c := by
      rw [List.getD_eq_getElem?_getD, ← Nat.add_zero i, ← List.getElem?_drop, hd]
      rfl
    have hd2 : WL.drop (i + 1) = w ++ 32 :: rest := by
      rw [← List.drop_drop, hd]
      rfl
    have hw1 := hw c List.mem_cons_self
    have hw2 : ∀ c, c ∈ w → c ≠ 32 ∧ c < 128 := fun x hx => hw x (List.mem_cons_of_mem _ hx)
    rw [List.length_cons] at hi ⊢
    rw [show k + (w.length + 1) + 1 = (k + w.length + 1) + 1 by omega, F_X9_wordKind_b12]
    rw [len_x, bI_s, if_neg (nI_ge (by omega) (by omega)), charAt_x (by omega), bI_s, hc, if_neg (fun q => hw1.1 ((n_eq_l 32 (by omega) (by omega)).mp q))]
    unfold F_X9_wordKind_b95 F_X9_wordKind_b98
    simp only [ib_e, nI_1]
    have e2 : i + 1 + w.length + 1 = i + (w.length + 1) + 1 := by omega
    have no : ∀ j, b + j ≤ e → F_X9_wordKind_b12 N (k + w.length + 1) (nI b) (nI e) (nI K) (nI (b + j)) 0 (nI (i + 1)) h = F_X9_wordKind_b12 N k (nI b) (nI e) (nI (K + 1)) (nI b) 1 (nI (i + (w.length + 1) + 1)) h := by
      intro j hj
      have := ih rest (i + 1) k K j false hd2 hw2 hj (by omega) hK
      rw [if_neg (by decide), if_neg (fun q => by cases q.1), e2] at this
      exact this
    cases sm with
    | false =>
      rw [if_pos (by decide), no j hj, if_neg (fun q => by cases q.1)]
    | true =>
      rw [if_neg (by decide)]
      by_cases g : e ≤ b + j
      · rw [if_pos (nI_le g (by omega)), no j hj, if_neg (fun q => by
          have := congrArg List.length q.2
          rw [slc_len] at this
          simp at this
          omega)]
      · rw [if_neg (nI_ge (by omega) (by omega)), if_pos (nI_in0 (by omega) (by omega)), nI_clamp (by omega), (C.2 : ∀ i, i < n → h.1 2 i = nI (T i)) (b + j) (by omega)]
        have hT : T (b + j) < 256 := by have := of_decide_eq_true (B.2 (b + j) (by dsimp only; omega)); dsimp only at this; omega
        have hs : slc T (e - (b + j)) (b + j) = T (b + j) :: slc T (e - (b + (j + 1))) (b + (j + 1)) := by
          rw [show e - (b + j) = (e - (b + (j + 1))) + 1 by omega, slc]
          rfl
        by_cases g2 : T (b + j) = c
        · have k1 := ih rest (i + 1) k K (j + 1) true hd2 hw2 (by omega) (by omega) hK
          rw [if_pos rfl, e2] at k1
          rw [if_pos (show nI (T (b + j)) = nI c by rw [g2]), show b + j + 1 = b + (j + 1) by omega, if_pos rfl, k1, hs, g2]
          simp
        · rw [if_neg (fun q => g2 ((nI_eq (by omega) (by omega)).mp q)), no j hj, if_neg (fun q => by
            rw [hs] at q
            exact g2 (List.cons.inj q.2).1)]
theorem wkws (B : TB (n, T)) (C : TpC (n, T) h) {N b e : Nat} (hbe : b ≤ e) (he : e ≤ n) : ∀ (ws : List (List Nat)) (i k K : Nat), WL.drop i = ws.flatMap (fun w => w ++ [32]) → (∀ w, w ∈ ws → ∀ c, c ∈ w → c ≠ 32 ∧ c < 128) → K + ws.length < 1000 → i ≤ 108 → 200 < k + i → F_X9_wordKind_b12 N k (nI b) (nI e) (nI K) (nI b) 1 (nI i) h = some (nI (wix (slc T (e - b) b) K ws), h) := by
  intro ws
  induction ws with
  | nil =>
    intro i k K hd hw hK hi hk
    have hl := congrArg List.length hd
    rw [List.length_drop, WL_len] at hl
    simp at hl
    obtain ⟨k', rfl⟩ : ∃ k', k = k' + 1 := ⟨k - 1, by omega⟩
    rw [F_X9_wordKind_b12, len_x, bI_s, if_pos (nI_le (by omega) (by omega))]
    rfl
  | cons w ws ih =>
    intro i k K hd hw hK hi hk
    rw [List.flatMap_cons, List.append_assoc] at hd
    have hl := congrArg List.length hd
    rw [List.length_drop, WL_len] at hl
    simp at hl
    obtain ⟨k', rfl⟩ : ∃ k', k = k' + w.length + 1 := ⟨k - w.length - 1, by omega⟩
    have hd2 : WL.drop i = w ++ 32 :: ws.flatMap (fun w => w ++ [32]) := hd
    have := wkw B C (N := N) hbe he w _ i k' K 0 true hd2 (hw w List.mem_cons_self) (by omega) (by omega) (by omega)
    simp only [Nat.add_zero] at this
    rw [if_pos trivial] at this
    rw [this]
    unfold wix
    by_cases g : slc T (e - b) b = w
    · rw [if_pos ⟨trivial, g⟩, if_pos g]
    · rw [if_neg (fun q => g q.2), if_neg g]
      refine ih (i + w.length + 1) k' (K + 1) ?_ (fun w hw' => hw w (List.mem_cons_of_mem _ hw')) (by simp at hK; omega) (by omega) (by omega)
      rw [Nat.add_assoc, ← List.drop_drop, hd2, List.drop_append]
      simp
theorem wordKind_x (B : TB (n, T)) (C : TpC (n, T) h) {N b e : Nat} (hN : 300 ≤ N) (hbe : b ≤ e) (he : e ≤ n) : F_X9_wordKind N (nI b) (nI e) h = some (nI (wix (slc T (e - b) b) 12 WW), h) := by
  have hw : ∀ w, w ∈ WW → ∀ c, c ∈ w → c ≠ 32 ∧ c < 128 := by decide +kernel
  exact wkws B C hbe he WW 0 N 12 rfl hw (by decide) (by omega) (by omega)
end
section
variable {n : Nat} {T : Nat → Nat} {h : PH}
/-- m tokens stand in the rows -/
def TkR (n : Nat) (T : Nat → Nat) (m : Nat) (h : PH) : Prop := h.1 10 4 = nI m ∧ (∀ i, i < m → h.1 11 i = nI (tkk n T (tkb n T i)) ∧ h.1 12 i = nI (tkv n T (tkb n T i)) ∧ h.1 13 i = nI (tkb n T i)) ∧ ∀ i, i < m → tkb n T i < n
theorem addT_x {k v p m : Nat} (hm : m ≤ 1000) (R : h.1 10 4 = nI m) : F_X9_add (nI k) (nI v) (nI p) h = some (hs (hs (hs (hs h 11 m (nI k)) 12 m (nI v)) 13 m (nI p)) 10 4 (nI (m + 1))) := by
  unfold F_X9_add
  rw [R, if_neg (fun z => by have := (l_le_n 1001 (by omega) (by omega)).mp z; omega), if_pos (nI_in0 (by omega) (by omega)), nI_clamp (by omega)]
  simp only [hb_e]
  have e1 : (hs h 11 m (nI k)).1 10 4 = nI m := by rw [hs_1, if_neg (by decide)]; exact R
  have e2 : (hs (hs h 11 m (nI k)) 12 m (nI v)).1 10 4 = nI m := by rw [hs_1, if_neg (by decide)]; exact e1
  have e3 : (hs (hs (hs h 11 m (nI k)) 12 m (nI v)) 13 m (nI p)).1 10 4 = nI m := by rw [hs_1, if_neg (by decide)]; exact e2
  rw [e1, if_pos (nI_in0 (by omega) (by omega)), nI_clamp (by omega), e2, if_pos (nI_in0 (by omega) (by omega)), nI_clamp (by omega), e3, nI_1]
theorem takeNumber_l (B : TB (n, T)) (C : TpC (n, T) h) {N b e : Nat} (hbe : b < e) (he : e ≤ n) (hd : ∀ p, b ≤ p → p < e → isD T p = true) : ∀ k j a, j ≤ min 4 (e - b) → 4 < k + j → a < 10 ^ j → F_X9_takeNumber_b5 N k (nI b) (nI e) (nI a) (nI (b + j)) h = F_X9_takeNumber_b44 N (nI b) (nI e) (nI (dig T (min 4 (e - b) - j) (b + j) a)) h := by
  have b1 : n ≤ 1000 := B.1
  have C2 : ∀ i, i < n → h.1 2 i = nI (T i) := C.2
  intro k
  induction k with
  | zero => intro j a h1 h2; omega
  | succ k ih =>
    intro j a h1 h2 ha
    unfold F_X9_takeNumber_b5
    have e4 : nI b + 4 = nI (b + 4) := nI_add b 4
    rw [e4]
    by_cases g : j = min 4 (e - b)
    · rw [g, Nat.sub_self, dig]
      by_cases g2 : e - b ≤ 4
      · rw [if_pos (nI_le (by omega) (by omega))]
      · by_cases g3 : e ≤ b + min 4 (e - b)
        · rw [if_pos (nI_le g3 (by omega))]
        · rw [if_neg (nI_ge (by omega) (by omega)), if_pos (nI_le (by omega) (by omega))]
    · have hd1 := of_decide_eq_true (hd (b + j) (by omega) (by omega))
      rw [if_neg (nI_ge (by omega) (by omega)), if_neg (nI_ge (by omega) (by omega)), if_pos (nI_in0 (by omega) (by omega)), nI_clamp (by omega), C2 (b + j) (by omega)]
      simp only [ib_e]
      have e5 : nI a * 10 + nI (T (b + j)) - 48 = nI (a * 10 + (T (b + j) - 48)) := by
        rw [show (10 : Int32) = nI 10 from rfl, pk_mul, nI_add, show (48 : Int32) = nI 48 from rfl, pk_sub (by omega)]
        congr 1
        omega
      rw [e5, nI_1, show b + j + 1 = b + (j + 1) by omega, ih (j + 1) _ (by omega) (by omega) (by rw [Nat.pow_succ]; omega), show min 4 (e - b) - j = (min 4 (e - b) - (j + 1)) + 1 by omega, dig]
      rfl
theorem lets_slc {b k : Nat} (hd : ∀ p, b ≤ p → p < b + k → isL T p = true) : lets (slc T k b) := by
  intro c hc
  obtain ⟨j, h1, h2, rfl⟩ := slc_mem k b hc
  exact of_decide_eq_true (hd j h1 h2)
/-- one step of take: a blank is passed, a token is put -/
theorem takeOne_x (B : TB (n, T)) (C : TpC (n, T) h) {N p m : Nat} (hN : 2000 ≤ N) (hp : p < n) (hs0 : skp n T p = tkb n T m) (hm : m ≤ p) (R : TkR n T m h) : okI (F_X9_takeOne N (nI p) h) (fun r h' => ∃ p' m', p < p' ∧ p' ≤ n ∧ m' ≤ p' ∧ r = nI p' ∧ skp n T p' = tkb n T m' ∧ TkR n T m' h' ∧ fr [10, 11, 12, 13] h h') := by
  have b1 : n ≤ 1000 := B.1
  have C2 : ∀ i, i < n → h.1 2 i = nI (T i) := C.2
  have ok := of_decide_eq_true (B.2 p hp)
  dsimp only at ok
  have blank : isB T p = true → okI (some (nI p + 1, h)) (fun r h' => ∃ p' m', p < p' ∧ p' ≤ n ∧ m' ≤ p' ∧ r = nI p' ∧ skp n T p' = tkb n T m' ∧ TkR n T m' h' ∧ fr [10, 11, 12, 13] h h') := fun hb0 => by
    refine okI_s ⟨p + 1, m, by omega, by omega, by omega, nI_1 p, ?_, R, fr_0⟩
    rw [← hs0]
    unfold skp
    rw [eor_t hp hb0]
  have tok : ∀ k v e, isB T p = false → k = tkk n T p → v = tkv n T p → e = tke n T p → okI (bV (F_X9_add (nI k) (nI v) (nI p) h) fun h2 => some (nI e, h2)) (fun r h' => ∃ p' m', p < p' ∧ p' ≤ n ∧ m' ≤ p' ∧ r = nI p' ∧ skp n T p' = tkb n T m' ∧ TkR n T m' h' ∧ fr [10, 11, 12, 13] h h') := by
    intro k v e hb0 hk hv he
    have hp0 : tkb n T m = p := by rw [← hs0]; unfold skp; exact eor_f hb0
    have te := tke_b (T := T) hp
    rw [addT_x (by omega) R.1, bV_s]
    refine okI_s ⟨e, m + 1, by omega, by omega, by omega, rfl, ?_, ⟨?_, fun i hi => ?_, fun i hi => ?_⟩, fr_s (fr_s (fr_s (fr_s fr_0 (by decide)) (by decide)) (by decide)) (by decide)⟩
    · rw [he, ← hp0]; rfl
    · simp [hs_1]
    · by_cases g : i = m
      · subst g
        simp [hs_1, hp0, hk, hv]
      · simp [hs_1, g]
        exact R.2.1 i (by omega)
    · by_cases g : i = m
      · rw [g, hp0]; exact hp
      · exact R.2.2 i (by omega)
  unfold F_X9_takeOne
  rw [if_pos (nI_in0 (by omega) (by omega)), nI_clamp (by omega), C2 p hp, ib_e]
  unfold F_X9_takeOne_b22 F_X9_takeOne_b53 F_X9_takeOne_b80 F_X9_takeOne_b99
  by_cases g1 : T p = 32
  · rw [if_pos (by rw [g1]; rfl)]
    exact blank (decide_eq_true (Or.inl g1))
  · rw [if_neg (fun z => g1 ((n_eq_l 32 (by omega) (by omega)).mp z))]
    by_cases g2 : T p = 10
    · rw [if_pos (by rw [g2]; rfl)]
      exact blank (decide_eq_true (Or.inr g2))
    · rw [if_neg (fun z => g2 ((n_eq_l 10 (by omega) (by omega)).mp z))]
      have hb0 : isB T p = false := decide_eq_false (by omega)
      have sign : isL T p = false → isD T p = false → okI (bI (F_J0_indexOf_0f7a4 N 0 (nI (T p)) h) fun r1 h2 => if 0 ≤ r1 then bV (F_X9_add (4 + r1) 0 (nI p) h2) fun h2 => some (nI p + 1, h2) else bV (F_X9_add 1 0 (nI p) h2) fun h2 => some (nI p + 1, h2)) (fun r h' => ∃ p' m', p < p' ∧ p' ≤ n ∧ m' ≤ p' ∧ r = nI p' ∧ skp n T p' = tkb n T m' ∧ TkR n T m' h' ∧ fr [10, 11, 12, 13] h h') := fun hl hd => by
        rw [indexOf_x (by omega) (by omega), bI_s, nI_1]
        have ix := ixo_c (T p) (by omega)
        have t := tok (sgk (T p)) 0 (p + 1) hb0 (by unfold tkk; rw [if_neg (by omega), hl, hd]; rfl) (by unfold tkv; rw [if_neg (by omega), hl, hd]; rfl) (by unfold tke; rw [if_neg (by omega), hl, hd]; rfl)
        rw [← ix] at t
        by_cases q : 0 ≤ ixo ((nI (T p)).toInt8.toInt32) 8 0
        · rw [if_pos q] at t ⊢; exact t
        · rw [if_neg q] at t ⊢; exact t
      have digits : isL T p = false → okI (if nI (T p) < 48 then bI (F_J0_indexOf_0f7a4 N 0 (nI (T p)) h) fun r1 h2 => if 0 ≤ r1 then bV (F_X9_add (4 + r1) 0 (nI p) h2) fun h2 => some (nI p + 1, h2) else bV (F_X9_add 1 0 (nI p) h2) fun h2 => some (nI p + 1, h2) else if 57 < nI (T p) then bI (F_J0_indexOf_0f7a4 N 0 (nI (T p)) h) fun r1 h2 => if 0 ≤ r1 then bV (F_X9_add (4 + r1) 0 (nI p) h2) fun h2 => some (nI p + 1, h2) else bV (F_X9_add 1 0 (nI p) h2) fun h2 => some (nI p + 1, h2) else bI (F_X9_endOfRun N (nI p) 48 57 h) fun r3 h4 => bI (F_X9_takeNumber N (nI p) r3 h4) fun r5 h6 => some (r5, h6)) (fun r h' => ∃ p' m', p < p' ∧ p' ≤ n ∧ m' ≤ p' ∧ r = nI p' ∧ skp n T p' = tkb n T m' ∧ TkR n T m' h' ∧ fr [10, 11, 12, 13] h h') := fun hl => by
        by_cases q1 : T p < 48
        · rw [if_pos ((n_lt_l 48 (by omega) (by omega)).mpr q1)]
          exact sign hl (decide_eq_false (by omega))
        · rw [if_neg (fun z => q1 ((n_lt_l 48 (by omega) (by omega)).mp z))]
          by_cases q2 : 57 < T p
          · rw [if_pos ((l_lt_n 57 (by omega) (by omega)).mpr q2)]
            exact sign hl (decide_eq_false (by omega))
          · rw [if_neg (fun z => q2 ((l_lt_n 57 (by omega) (by omega)).mp z))]
            have hd : isD T p = true := decide_eq_true (by omega)
            have er := endOfRun_l B C (N := N) (lo := 48) (hi := 57) (P := isD T) (fun p hp => isD_c B C hp) N p (by omega) (by omega)
            have te := tke_b (T := T) hp
            have ee : eor (isD T) n p = tke n T p := by unfold tke; rw [if_neg (by omega), hl, hd]; rfl
            unfold F_X9_endOfRun F_X9_takeNumber
            rw [er, bI_s, ee]
            have tn := takeNumber_l B C (N := N) te.1 te.2 (fun q h1 h2 => eor_in h1 (by rw [ee]; exact h2)) N 0 0 (by omega) (by omega) (by omega)
            rw [show F_X9_takeNumber_b5 N N (nI p) (nI (tke n T p)) 0 (nI p) h = _ from tn]
            unfold F_X9_takeNumber_b44 F_X9_takeNumber_b57
            rw [pk_sub (by omega)]
            have hv : nnm n T p = tkv n T p := by unfold tkv; rw [if_neg (by omega), hl, hd]; rfl
            by_cases q3 : tke n T p - p ≤ 4
            · rw [if_pos ((n_le_l 4 (by omega) (by omega)).mpr q3)]
              have t := tok 2 (nnm n T p) (tke n T p) hb0 (by unfold tkk; rw [if_neg (by omega), hl, hd, if_neg (by decide), if_pos rfl, if_neg (by omega)]) hv rfl
              obtain ⟨r, h2, e1, e2⟩ := t
              exact ⟨r, h2, by rw [show bV (F_X9_add 2 (nI (dig T (min 4 (tke n T p - p) - 0) (p + 0) 0)) (nI p) h) (fun h2 => some (nI (tke n T p), h2)) = _ from e1]; rfl, e2⟩
            · rw [if_neg (fun z => q3 ((n_le_l 4 (by omega) (by omega)).mp z))]
              have t := tok 1 (nnm n T p) (tke n T p) hb0 (by unfold tkk; rw [if_neg (by omega), hl, hd, if_neg (by decide), if_pos rfl, if_pos (by omega)]) hv rfl
              obtain ⟨r, h2, e1, e2⟩ := t
              exact ⟨r, h2, by rw [show bV (F_X9_add 1 (nI (dig T (min 4 (tke n T p - p) - 0) (p + 0) 0)) (nI p) h) (fun h2 => some (nI (tke n T p), h2)) = _ from e1]; rfl, e2⟩
      by_cases g3 : T p < 97
      · rw [if_pos ((n_lt_l 97 (by omega) (by omega)).mpr g3)]
        exact digits (decide_eq_false (by omega))
      · rw [if_neg (fun z => g3 ((n_lt_l 97 (by omega) (by omega)).mp z))]
        by_cases g4 : 122 < T p
        · rw [if_pos ((l_lt_n 122 (by omega) (by omega)).mpr g4)]
          exact digits (decide_eq_false (by omega))
        · rw [if_neg (fun z => g4 ((l_lt_n 122 (by omega) (by omega)).mp z))]
          have hl : isL T p = true := decide_eq_true (by omega)
          have er := endOfRun_l B C (N := N) (lo := 97) (hi := 122) (P := isL T) (fun p hp => isL_c B C hp) N p (by omega) (by omega)
          have te := tke_b (T := T) hp
          have ee : eor (isL T) n p = tke n T p := by unfold tke; rw [if_neg (by omega), hl]; rfl
          have lt : ∀ k, k ≤ tke n T p - p → lets (slc T k p) := fun k hk => lets_slc (fun q h1 h2 => eor_in h1 (by rw [ee]; omega))
          unfold F_X9_endOfRun F_X9_takeWord F_X9_takeWord_b36 F_X9_takeWord_b55
          rw [er, bI_s, ee, if_pos (nI_in0 (by omega) (by omega)), nI_clamp (by omega), C2 p hp, ib_e, pk_sub (by omega)]
          have one : tke n T p - p = 1 → wnm n T p = T p - 96 := fun q => by
            unfold wnm
            rw [q]
            show 0 * 27 + (T p - 96) = T p - 96
            omega
          have more : 2 ≤ tke n T p - p → 28 ≤ wnm n T p := fun q => by
            unfold wnm
            have l2 := lt (min 8 (tke n T p - p)) (by omega)
            obtain ⟨k, hk⟩ : ∃ k, min 8 (tke n T p - p) = k + 2 := ⟨min 8 (tke n T p - p) - 2, by omega⟩
            rw [hk] at l2 ⊢
            have c1 := l2 (T p) (by simp [slc])
            have c2 := l2 (T (p + 1)) (by simp [slc])
            have mono : ∀ (l : List Nat) (a : Nat), a ≤ wvl a l := by
              intro l
              induction l with
              | nil => intro a; exact Nat.le_refl _
              | cons c l ih => intro a; have := ih (a * 27 + (c - 96)); unfold wvl; omega
            have := mono (slc T k (p + 1 + 1)) ((0 * 27 + (T p - 96)) * 27 + (T (p + 1) - 96))
            show 28 ≤ wvl ((0 * 27 + (T p - 96)) * 27 + (T (p + 1) - 96)) (slc T k (p + 1 + 1))
            omega
          have kk : tkk n T p = if 8 < tke n T p - p then 1 else if wnm n T p ≤ 8 then 3 else wkn (wnm n T p) 12 WW := by unfold tkk; rw [if_neg (by omega), if_pos hl]
          have vv : tkv n T p = if 8 < tke n T p - p then 0 else if wnm n T p ≤ 8 then wnm n T p - 1 else 0 := by unfold tkv; rw [if_neg (by omega), if_pos hl]
          have word : ¬ (tke n T p - p = 1 ∧ T p ≤ 104) → okI (bI (if nI (tke n T p - p) ≤ 8 then bI (F_X9_wordKind N (nI p) (nI (tke n T p)) h) fun r2 h3 => bV (F_X9_add r2 0 (nI p) h3) fun h2 => some (nI (tke n T p), h2) else bV (F_X9_add 1 0 (nI p) h) fun h2 => some (nI (tke n T p), h2)) fun r9 h10 => some (r9, h10)) (fun r h' => ∃ p' m', p < p' ∧ p' ≤ n ∧ m' ≤ p' ∧ r = nI p' ∧ skp n T p' = tkb n T m' ∧ TkR n T m' h' ∧ fr [10, 11, 12, 13] h h') := fun nw => by
            have big : tke n T p - p ≤ 8 → 8 < wnm n T p := fun q0 => by
              by_cases q : tke n T p - p = 1
              · rw [one q]; omega
              · have := more (by omega); omega
            by_cases q3 : tke n T p - p ≤ 8
            · rw [if_pos ((n_le_l 8 (by omega) (by omega)).mpr q3), wordKind_x B C (by omega) (by omega) te.2, bI_s]
              have b8 := big q3
              have t := tok (wix (slc T (tke n T p - p) p) 12 WW) 0 (tke n T p) hb0 (by
                rw [kk, if_neg (by omega), if_neg (by omega), wix_n (lt _ (Nat.le_refl _)) WW 12 WW_l]
                unfold wnm
                rw [Nat.min_eq_right q3]) (by rw [vv, if_neg (by omega), if_neg (by omega)]) rfl
              obtain ⟨r, h2, e1, e2⟩ := t
              exact ⟨r, h2, by rw [show bV (F_X9_add (nI (wix (slc T (tke n T p - p) p) 12 WW)) 0 (nI p) h) (fun h2 => some (nI (tke n T p), h2)) = _ from e1]; rfl, e2⟩
            · rw [if_neg (fun z => q3 ((n_le_l 8 (by omega) (by omega)).mp z))]
              have t := tok 1 0 (tke n T p) hb0 (by rw [kk, if_pos (by omega)]) (by rw [vv, if_pos (by omega)]) rfl
              obtain ⟨r, h2, e1, e2⟩ := t
              exact ⟨r, h2, by rw [show bV (F_X9_add 1 0 (nI p) h) (fun h2 => some (nI (tke n T p), h2)) = _ from e1]; rfl, e2⟩
          by_cases q1 : tke n T p - p = 1
          · rw [if_pos (by rw [q1]; rfl)]
            by_cases q2 : 104 < T p
            · rw [if_pos ((l_lt_n 104 (by omega) (by omega)).mpr q2)]
              exact word (by omega)
            · rw [if_neg (fun z => q2 ((l_lt_n 104 (by omega) (by omega)).mp z)), show (97 : Int32) = nI 97 from rfl, pk_sub (by omega)]
              have o1 := one q1
              have t := tok 3 (T p - 97) (tke n T p) hb0 (by rw [kk, if_neg (by omega), if_pos (by omega)]) (by rw [vv, if_neg (by omega), if_pos (by omega)]; omega) rfl
              obtain ⟨r, h2, e1, e2⟩ := t
              exact ⟨r, h2, by rw [show bV (F_X9_add 3 (nI (T p - 97)) (nI p) h) (fun h2 => some (nI (tke n T p), h2)) = _ from e1]; rfl, e2⟩
          · rw [if_neg (fun z => q1 ((n_eq_l 1 (by omega) (by omega)).mp z))]
            exact word (by omega)
theorem take_l (B : TB (n, T)) {N : Nat} (hN : 2000 ≤ N) : ∀ k p m i h, p ≤ n → n < k + p → m ≤ p → i ≤ p → TpC (n, T) h → skp n T p = tkb n T m → TkR n T m h → okV (F_X9_take_b9 N k (nI p) (nI i) h) (fun h' => ∃ m, m ≤ n ∧ tkb n T m = n ∧ (∀ i, i < m → tkb n T i < n) ∧ (∀ i, i ≤ m → h'.1 11 i = nI (tkk n T (tkb n T i)) ∧ h'.1 12 i = nI (tkv n T (tkb n T i)) ∧ h'.1 13 i = nI (tkb n T i)) ∧ h'.1 1 1 = 0 ∧ fq [10, 11, 12, 13] [(1, 1)] h h') := by
  have b1 : n ≤ 1000 := B.1
  intro k
  induction k with
  | zero => intro p m i h h1 h2; omega
  | succ k ih =>
    intro p m i h h1 h2 h3 h4 C S R
    have C1 : h.1 1 1 = nI n := C.1
    unfold F_X9_take_b9
    have fin : p = n → okV (F_X9_take_b39 N h) (fun h' => ∃ m, m ≤ n ∧ tkb n T m = n ∧ (∀ i, i < m → tkb n T i < n) ∧ (∀ i, i ≤ m → h'.1 11 i = nI (tkk n T (tkb n T i)) ∧ h'.1 12 i = nI (tkv n T (tkb n T i)) ∧ h'.1 13 i = nI (tkb n T i)) ∧ h'.1 1 1 = 0 ∧ fq [10, 11, 12, 13] [(1, 1)] h h') := fun q => by
      subst q
      have hb0 : tkb p T m = p := by rw [← S]; unfold skp; exact eor_n (Nat.le_refl _)
      unfold F_X9_take_b39
      rw [C1, show (0 : Int32) = nI 0 from rfl, addT_x (by omega) R.1, bV_s, hb_e]
      refine okV_s ⟨m, h3, hb0, R.2.2, fun i hi => ?_, by simp [hs_1, nI_0], ?_⟩
      · by_cases g : i = m
        · subst g
          rw [hb0]
          simp [hs_1, tkk, tkv]
        · simp [hs_1, g]
          exact R.2.1 i (by omega)
      · exact fq_s (fq_s (fq_s (fq_s (fq_s fq_0 (Or.inl (by decide))) (Or.inl (by decide))) (Or.inl (by decide))) (Or.inl (by decide))) (Or.inr (by decide))
    by_cases g : p = n
    · by_cases g2 : 1000 ≤ i
      · rw [if_pos ((l_le_n 1000 (by omega) (by omega)).mpr g2)]
        exact fin g
      · rw [if_neg (fun z => g2 ((l_le_n 1000 (by omega) (by omega)).mp z)), C1, if_pos (nI_le (by omega) (by omega))]
        exact fin g
    · rw [if_neg (fun z => by have := (l_le_n 1000 (by omega) (by omega)).mp z; omega), C1, if_neg (nI_ge (by omega) (by omega))]
      refine okV_bI (okI_m (takeOne_x B C (by omega) (by omega) S h3 R) (fun r h' q => ?_))
      obtain ⟨p', m', q1, q2, q3, rfl, q4, q5, q6⟩ := q
      rw [ib_e, nI_1]
      have C' : TpC (n, T) h' := by
        refine ⟨?_, fun i hi => ?_⟩
        · rw [q6 1 (by decide)]; exact C.1
        · rw [q6 2 (by decide)]; exact C.2 i hi
      refine okV_m (ih p' m' (i + 1) h' q2 (by omega) q3 (by omega) C' q4 q5) (fun h2 z => ?_)
      obtain ⟨m2, z1, z2, z3, z4, z5, z6⟩ := z
      exact ⟨m2, z1, z2, z3, z4, z5, fq_t (fq_fr q6) z6⟩
/-- the class's rows hold the tokens 0 to m, the last one is the end -/
def TkC (n : Nat) (T : Nat → Nat) (m : Nat) (h : PH) : Prop := m ≤ n ∧ tkb n T m = n ∧ (∀ i, i < m → tkb n T i < n) ∧ (∀ i, i ≤ m → h.1 11 i = nI (tkk n T (tkb n T i)) ∧ h.1 12 i = nI (tkv n T (tkb n T i)) ∧ h.1 13 i = nI (tkb n T i))
theorem take_x (B : TB (n, T)) (C : TpC (n, T) h) {N : Nat} (hN : 2000 ≤ N) : okV (F_X9_take N h) (fun h' => (∃ m, TkC n T m h') ∧ h'.1 1 1 = 0 ∧ fq [10, 11, 12, 13] [(1, 1)] h h') := by
  have b1 : n ≤ 1000 := B.1
  unfold F_X9_take
  rw [hb_e]
  have C' : TpC (n, T) (hs h 10 4 0) := by
    refine ⟨?_, fun i hi => ?_⟩
    · rw [hs_1, if_neg (by decide)]; exact C.1
    · rw [hs_1, if_neg (by decide)]; exact C.2 i hi
  refine okV_m (take_l B hN N 0 0 0 (hs h 10 4 0) (by omega) (by omega) (by omega) (by omega) C' rfl ⟨by simp [hs_1, nI_0], fun i hi => by omega, fun i hi => by omega⟩) (fun h2 z => ?_)
  obtain ⟨m2, z1, z2, z3, z4, z5, z6⟩ := z
  exact ⟨⟨m2, z1, z2, z3, z4⟩, z5, fq_t (fq_s fq_0 (Or.inl (by decide))) z6⟩
end
