/-! the TAPE: n signs T -/
def okS (c : Nat) : Bool := decide (c = 10 ∨ (32 ≤ c ∧ c ≤ 126))
abbrev TP : Type := Nat × (Nat → Nat)
def TB (q : TP) : Prop := q.1 ≤ 1000 ∧ ∀ i, i < q.1 → okS (q.2 i) = true
def TpC (q : TP) (h : PH) : Prop := h.1 1 1 = nI q.1 ∧ ∀ i, i < q.1 → h.1 2 i = nI (q.2 i)
def TpM (q : TP) (h : PH) : Prop := h.1 103 2 = nI q.1 ∧ ∀ i, i < q.1 → h.1 104 i = nI (q.2 i)
def byt (w : Int64) (s : Nat) : Nat := uN w / 2 ^ s % 2 ^ 8
theorem bytC {w : Int64} {s : Nat} (hs : s < 57) : (w >>> ((nI s).toInt64 &&& 63)).toInt32 &&& 255 = nI (byt w s) := by
  rw [pk_and _ 8 (by decide)]
  congr 1
  unfold byt uN
  apply Nat.eq_of_testBit_eq
  intro i
  rw [Nat.testBit_mod_two_pow, Nat.testBit_mod_two_pow, Nat.testBit_div_two_pow]
  by_cases hi : i < 8
  · simp only [hi, decide_true, Bool.true_and]
    show (w >>> ((nI s).toInt64 &&& 63)).toInt32.toBitVec.getLsbD i = w.toBitVec.getLsbD (i + s)
    rw [wb_c s (by omega), Int64.toBitVec_toInt32, Int64.toBitVec_shiftRight, wb_tb]
    have e : ((BitVec.ofNat 64 s).smod 64).toNat = s := by
      rw [wb_sm s (by omega)]
      simp
      omega
    rw [BitVec.getLsbD_signExtend, BitVec.sshiftRight_eq', e, BitVec.getLsbD_sshiftRight]
    have h1 : s + i < 64 := by omega
    have h2 : i < 64 := by omega
    have h3 : i < 32 := by omega
    have h4 : ¬ 64 ≤ i := by omega
    rw [if_pos h1, decide_eq_false h4, decide_eq_true h3, Nat.add_comm s i]
    simp [h2]
  · simp [hi]
theorem bytM {w : Int64} {s : Nat} (hs : s < 64) : (((w.toUInt64 >>> ((nI s).toInt64.toUInt64 &&& Int64.toUInt64 63)).toInt64) &&& 255).toInt32 = nI (byt w s) := by
  obtain ⟨n, hn, rfl⟩ := wb_of w
  rw [wb_shr hn hs, show (255 : Int64) = lN (2 ^ 8 - 1) from rfl, wb_mask (Nat.lt_of_le_of_lt (Nat.div_le_self _ _) hn) (by omega), lN_i]
  unfold byt
  rw [show uN (lN n) = n from wb_tn hn]
def fd (c : Nat) (q : TP) : TP := if q.1 < 1000 ∧ okS c = true then (q.1 + 1, fun i => if i = q.1 then c else q.2 i) else q
theorem fd_B {c : Nat} {q : TP} (h : TB q) : TB (fd c q) := by
  unfold fd
  by_cases g : q.1 < 1000 ∧ okS c = true
  · rw [if_pos g]
    refine ⟨by dsimp only; omega, fun i hi => ?_⟩
    dsimp only at hi ⊢
    by_cases e : i = q.1
    · rw [if_pos e]; exact g.2
    · rw [if_neg e]; exact h.2 i (by omega)
  · rw [if_neg g]; exact h
def fdk (w : Int64) : Nat → Nat → TP → TP
  | 0, _, q => q
  | k + 1, j, q => fdk w k (j + 1) (fd (byt w (56 - 8 * j)) q)
theorem fdk_B {w : Int64} : ∀ k j q, TB q → TB (fdk w k j q) := by
  intro k
  induction k with
  | zero => intro j q h; exact h
  | succ k ih => intro j q h; exact ih _ _ (fd_B h)
def fdm (a b c : Int64) : Nat → Nat → TP → TP
  | 0, _, q => q
  | k + 1, j, q => fdm a b c k (j + 1) (fd (byt (if j < 8 then a else if j < 16 then b else c) (56 - 8 * (j % 8))) q)
theorem byt_lt {w : Int64} {s : Nat} : byt w s < 256 := Nat.mod_lt _ (by decide)
theorem okS_c {c : Nat} (hc : c < 256) : okS c = true ↔ nI c = 10 ∨ (¬ nI c < 32 ∧ ¬ 126 < nI c) := by
  unfold okS
  rw [decide_eq_true_iff, show (10 : Int32) = nI 10 from rfl, show (32 : Int32) = nI 32 from rfl, show (126 : Int32) = nI 126 from rfl, nI_eq (by omega) (by omega), nI_ltI (by omega) (by omega), nI_ltI (by omega) (by omega)]
  omega
theorem putC_l {N : Nat} {w : Int64} : ∀ (n j : Nat) (q : TP) (h : PH), j ≤ 8 → 8 < n + j → TB q → TpC q h → okV (F_X8_put_b3 N n w (iI (56 - 8 * (j : Int))) h) (fun h' => TpC (fdk w (8 - j) j q) h' ∧ fr [1, 2] h h') := by
  intro n
  induction n with
  | zero => intro j q h h1 h2; omega
  | succ n ih =>
    intro j q h h1 h2 B C
    unfold F_X8_put_b3
    by_cases g : j = 8
    · subst g
      rw [if_pos (by decide)]
      exact okV_s ⟨C, fr_0⟩
    · have e1 : (56 - 8 * (j : Int)) = ((56 - 8 * j : Nat) : Int) := by omega
      rw [if_neg (by rw [iI_lt0 (by omega) (by omega)]; omega), ib_e]
      have e2 : iI (56 - 8 * (j : Int)) = nI (56 - 8 * j) := by rw [e1, ← iI_nat]
      have e3 : iI (56 - 8 * (j : Int)) + (-8) = iI (56 - 8 * ((j + 1 : Nat) : Int)) := by
        rw [show (-8 : Int32) = iI (-8) from rfl, iI_add]
        congr 1
        omega
      have e4 : (iI (56 - 8 * (j : Int))).toInt64 = (nI (56 - 8 * j)).toInt64 := by rw [e2]
      rw [e4, bytC (by omega)]
      have hbt := byt_lt (w := w) (s := 56 - 8 * j)
      have e8 : 8 - j = (8 - (j + 1)) + 1 := by omega
      unfold F_X8_put_b38 F_X8_put_b42 F_X8_put_b43 F_X8_put_b84
      simp only [ib_e, e3]
      rw [e8, fdk]
      have skip : fd (byt w (56 - 8 * j)) q = q → okV (F_X8_put_b3 N n w (iI (56 - 8 * ((j + 1 : Nat) : Int))) h) (fun h' => TpC (fdk w (8 - (j + 1)) (j + 1) (fd (byt w (56 - 8 * j)) q)) h' ∧ fr [1, 2] h h') := fun q0 => by
        rw [q0]
        exact ih (j + 1) q h (by omega) (by omega) B C
      have take : okS (byt w (56 - 8 * j)) = true → okV (if (1000 : Int32) ≤ h.1 1 1 then F_X8_put_b3 N n w (iI (56 - 8 * ((j + 1 : Nat) : Int))) h else if inb (h.1 1 1) 1000 = true then hb (hs h 2 (h.1 1 1).toNatClampNeg (vp_nar .char (((nI (byt w (56 - 8 * j))).toUInt32 % 65536).toInt32))) fun h4 => hb (hs h4 1 1 (h4.1 1 1 + 1)) fun h5 => F_X8_put_b3 N n w (iI (56 - 8 * ((j + 1 : Nat) : Int))) h5 else none) (fun h' => TpC (fdk w (8 - (j + 1)) (j + 1) (fd (byt w (56 - 8 * j)) q)) h' ∧ fr [1, 2] h h') := fun ok => by
        obtain ⟨B1, B2⟩ := B
        have c1 := C.1
        by_cases g1 : q.1 = 1000
        · rw [if_pos (by rw [c1, g1]; decide)]
          exact skip (by unfold fd; rw [if_neg (by omega)])
        · rw [c1, if_neg (fun z => by have := (l_le_n 1000 (by omega) (by omega)).mp z; omega), if_pos (nI_in0 (by omega) (by omega)), nI_clamp (by omega), pk_vc, pk_char, pk_tn (by omega), Nat.mod_eq_of_lt (by omega)]
          simp only [hb_e]
          have e5 : (hs h 2 q.1 (nI (byt w (56 - 8 * j)))).1 1 1 = nI q.1 := by rw [hs_1, if_neg (by decide)]; exact c1
          rw [e5, nI_1]
          have C2 : TpC (fd (byt w (56 - 8 * j)) q) (hs (hs h 2 q.1 (nI (byt w (56 - 8 * j)))) 1 1 (nI (q.1 + 1))) := by
            unfold fd
            rw [if_pos ⟨by omega, ok⟩]
            refine ⟨by simp [hs_1], fun i hi => ?_⟩
            dsimp only at hi ⊢
            by_cases e : i = q.1
            · simp [hs_1, e]
            · simp [hs_1, e]; exact C.2 i (by omega)
          refine okV_m (ih (j + 1) _ _ (by omega) (by omega) (fd_B ⟨B1, B2⟩) C2) (fun h' k => ⟨k.1, fr_t (fr_s (fr_s fr_0 (by decide)) (by decide)) k.2⟩)
      have hk := okS_c hbt
      by_cases g1 : nI (byt w (56 - 8 * j)) = 10
      · rw [if_pos g1, if_neg (by decide)]
        exact take (hk.mpr (Or.inl g1))
      · rw [if_neg g1]
        by_cases g2 : nI (byt w (56 - 8 * j)) < 32
        · rw [if_pos g2, if_pos trivial]
          refine skip ?_
          unfold fd
          rw [if_neg (fun z => by rcases hk.mp z.2 with z | z; exact g1 z; exact z.1 g2)]
        · rw [if_neg g2]
          by_cases g3 : 126 < nI (byt w (56 - 8 * j))
          · rw [if_pos g3, if_pos trivial]
            refine skip ?_
            unfold fd
            rw [if_neg (fun z => by rcases hk.mp z.2 with z | z; exact g1 z; exact z.2 g3)]
          · rw [if_neg g3, if_neg (by decide)]
            exact take (hk.mpr (Or.inr ⟨g2, g3⟩))
theorem feedM_l {N : Nat} {a b c : Int64} : ∀ (n j : Nat) (q : TP) (h : PH), j ≤ 24 → 24 < n + j → TB q → TpM q h → okI (F_X12_feed_b8 N n a b c (nI j) h) (fun r h' => r = nI (fdm a b c (24 - j) j q).1 ∧ TpM (fdm a b c (24 - j) j q) h' ∧ fq [104] [(103, 2)] h h') := by
  intro n
  induction n with
  | zero => intro j q h h1 h2; omega
  | succ n ih =>
    intro j q h h1 h2 B C
    unfold F_X12_feed_b8
    by_cases g : j = 24
    · subst g
      rw [if_pos (by decide)]
      exact okI_s ⟨C.1, C, fq_0⟩
    · rw [if_neg (fun z => by have := (l_le_n 24 (by omega) (by omega)).mp z; omega)]
      have e8 : 24 - j = (24 - (j + 1)) + 1 := by omega
      have e7 : nI j &&& 7 = nI (j % 8) := pk_andN (by omega) 3 (by decide)
      have e6 : (56 : Int32) - (8 : Int32) * (nI j &&& 7) = nI (56 - 8 * (j % 8)) := by
        rw [e7, show (8 : Int32) = nI 8 from rfl, pk_mul, show (56 : Int32) = nI 56 from rfl, pk_sub (by omega)]
      have main : ∀ w : Int64, w = (if j < 8 then a else if j < 16 then b else c) → okI (F_X12_feed_b39 N (F_X12_feed_b8 N n) a b c (nI j) w h) (fun r h' => r = nI (fdm a b c (24 - j) j q).1 ∧ TpM (fdm a b c (24 - j) j q) h' ∧ fq [104] [(103, 2)] h h') := by
        intro w hw
        unfold F_X12_feed_b39 F_X12_feed_b93 F_X12_feed_b114
        rw [e6, bytM (by omega)]
        rw [e8, fdm, ← hw]
        simp only [ib_e, nI_1]
        have hbt := byt_lt (w := w) (s := 56 - 8 * (j % 8))
        have skip : fd (byt w (56 - 8 * (j % 8))) q = q → okI (F_X12_feed_b8 N n a b c (nI (j + 1)) h) (fun r h' => r = nI (fdm a b c (24 - (j + 1)) (j + 1) (fd (byt w (56 - 8 * (j % 8))) q)).1 ∧ TpM (fdm a b c (24 - (j + 1)) (j + 1) (fd (byt w (56 - 8 * (j % 8))) q)) h' ∧ fq [104] [(103, 2)] h h') := fun q0 => by
          rw [q0]
          exact ih (j + 1) q h (by omega) (by omega) B C
        have hk := okS_c hbt
        have c1 := C.1
        obtain ⟨B1, B2⟩ := B
        by_cases g0 : q.1 = 1000
        · rw [if_pos (by rw [c1, g0]; decide)]
          exact skip (by unfold fd; rw [if_neg (by omega)])
        · rw [c1, if_neg (fun z => by have := (l_le_n 1000 (by omega) (by omega)).mp z; omega)]
          have take : okS (byt w (56 - 8 * (j % 8))) = true → okI (if inb (nI q.1) 1000 = true then hb (hs h 104 (nI q.1).toNatClampNeg (nI (byt w (56 - 8 * (j % 8))))) fun h2 => hb (hs h2 103 2 (h2.1 103 2 + 1)) fun h3 => F_X12_feed_b8 N n a b c (nI (j + 1)) h3 else none) (fun r h' => r = nI (fdm a b c (24 - (j + 1)) (j + 1) (fd (byt w (56 - 8 * (j % 8))) q)).1 ∧ TpM (fdm a b c (24 - (j + 1)) (j + 1) (fd (byt w (56 - 8 * (j % 8))) q)) h' ∧ fq [104] [(103, 2)] h h') := fun ok => by
            rw [if_pos (nI_in0 (by omega) (by omega)), nI_clamp (by omega)]
            simp only [hb_e]
            have e5 : (hs h 104 q.1 (nI (byt w (56 - 8 * (j % 8))))).1 103 2 = nI q.1 := by rw [hs_1, if_neg (by decide)]; exact c1
            rw [e5, nI_1]
            have C2 : TpM (fd (byt w (56 - 8 * (j % 8))) q) (hs (hs h 104 q.1 (nI (byt w (56 - 8 * (j % 8))))) 103 2 (nI (q.1 + 1))) := by
              unfold fd
              rw [if_pos ⟨by omega, ok⟩]
              refine ⟨by simp [hs_1], fun i hi => ?_⟩
              dsimp only at hi ⊢
              by_cases e : i = q.1
              · simp [hs_1, e]
              · simp [hs_1, e]; exact C.2 i (by omega)
            refine okI_m (ih (j + 1) _ _ (by omega) (by omega) (fd_B ⟨B1, B2⟩) C2) (fun r h' k => ⟨k.1, k.2.1, fq_t (fq_s (fq_s fq_0 (Or.inl (by decide))) (Or.inr (by decide))) k.2.2⟩)
          by_cases g1 : nI (byt w (56 - 8 * (j % 8))) = 10
          · rw [if_pos g1]
            exact take (hk.mpr (Or.inl g1))
          · rw [if_neg g1]
            by_cases g2 : nI (byt w (56 - 8 * (j % 8))) < 32
            · rw [if_pos g2]
              refine skip ?_
              unfold fd
              rw [if_neg (fun z => by rcases hk.mp z.2 with z | z; exact g1 z; exact z.1 g2)]
            · rw [if_neg g2]
              by_cases g3 : 126 < nI (byt w (56 - 8 * (j % 8)))
              · rw [if_pos g3]
                refine skip ?_
                unfold fd
                rw [if_neg (fun z => by rcases hk.mp z.2 with z | z; exact g1 z; exact z.2 g3)]
              · rw [if_neg g3]
                exact take (hk.mpr (Or.inr ⟨g2, g3⟩))
      by_cases g1 : j < 8
      · rw [if_neg (fun z => by have := (l_le_n 8 (by omega) (by omega)).mp z; omega)]
        exact main a (by rw [if_pos g1])
      · rw [if_pos ((l_le_n 8 (by omega) (by omega)).mpr (by omega))]
        by_cases g2 : j < 16
        · rw [if_neg (fun z => by have := (l_le_n 16 (by omega) (by omega)).mp z; omega)]
          exact main b (by rw [if_neg g1, if_pos g2])
        · rw [if_pos ((l_le_n 16 (by omega) (by omega)).mpr (by omega))]
          exact main c (by rw [if_neg g1, if_neg g2])
/-- the same TAPE on both sides -/
def TI (h : PH) : Prop := ∃ q : TP, TB q ∧ TpC q h ∧ TpM q h
theorem P_feed {N : Nat} (hN : 100 ≤ N) {h : PH} (I : TI h) (a b c : Int64) : ∃ r h1 h2, F_X11_feed N a b c h = some (r, h1) ∧ F_X12_feed N a b c h1 = some (r, h2) ∧ TI h2 ∧ fq [1, 2, 104] [(103, 0), (103, 2)] h h2 := by
  obtain ⟨q, B, C, M⟩ := I
  have put : ∀ (w : Int64) (q : TP) (h : PH), TB q → TpC q h → okV (F_X8_put N w h) (fun h' => TpC (fdk w 8 0 q) h' ∧ fr [1, 2] h h') := fun w q h b1 c1 => putC_l N 0 q h (by omega) (by omega) b1 c1
  obtain ⟨k1, e1, t1, f1⟩ := put a q h B C
  obtain ⟨k2, e2, t2, f2⟩ := put b _ k1 (fdk_B _ _ _ B) t1
  obtain ⟨k3, e3, t3, f3⟩ := put c _ k2 (fdk_B _ _ _ (fdk_B _ _ _ B)) t2
  have f : fr [1, 2] h k3 := fr_t (fr_t f1 f2) f3
  have M1 : TpM q (hs k3 103 0 0) := by
    refine ⟨?_, fun i hi => ?_⟩
    · rw [hs_1]; simp; rw [f 103 (by decide)]; exact M.1
    · rw [hs_1, if_neg (by decide), f 104 (by decide)]; exact M.2 i hi
  obtain ⟨r, k4, e4, hr, t4, f4⟩ := feedM_l (N := N) (a := a) (b := b) (c := c) N 0 q (hs k3 103 0 0) (by omega) (by omega) B M1
  have key : fdm a b c 24 0 q = fdk c 8 0 (fdk b 8 0 (fdk a 8 0 q)) := rfl
  rw [show 24 - 0 = 24 from rfl, key] at hr t4
  refine ⟨nI (fdk c 8 0 (fdk b 8 0 (fdk a 8 0 q))).1, k3, k4, ?_, ?_, ⟨_, fdk_B _ _ _ (fdk_B _ _ _ (fdk_B _ _ _ B)), ?_, t4⟩, ?_⟩
  · unfold F_X11_feed
    rw [e1, bV_s, e2, bV_s, e3, bV_s, t3.1]
  · unfold F_X12_feed
    rw [hb_e, ← hr]
    exact e4
  · refine ⟨?_, fun i hi => ?_⟩
    · rw [f4 1 1 (by decide) (by decide), hs_1, if_neg (by decide)]; exact t3.1
    · rw [f4 2 i (by decide) (by simp), hs_1, if_neg (by decide)]; exact t3.2 i hi
  · refine fq_t (fq_w (fq_fr (K := []) f) (by simp) (by simp)) (fq_t (fq_s fq_0 (Or.inr (by decide))) (fq_w f4 (by simp) (by simp)))
