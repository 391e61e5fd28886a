/-! rule() on both sides -/
def RuI (h : PH) : Prop := ∃ (E C : List Nat) (b : Bool), if b then Same true E C ∧ lnC 58 0 E h ∧ h.1 103 20 = 1 ∧ h.1 106 25 = nI 1000 ∧ h.1 107 25 = nI (1000 + C.length) ∧ C.length ≤ 1000 ∧ cAt h 1000 C else lnC 58 0 [] h ∧ h.1 103 20 = 0
theorem spP_F {F F' : Nat} {kd vl : Nat → Nat} : ∀ q, spP true F kd vl q = spP true F' kd vl q := by
  intro q
  induction q with
  | zero => rfl
  | succ q ih =>
    funext i
    unfold spP
    rw [ih]
    cases hb : begs true (kd i) with
    | false => rfl
    | true =>
      have bg := of_decide_eq_true hb
      rw [if_pos (show true = true from rfl), if_pos (show true = true from rfl)]
      by_cases g1 : kd i = 18
      · rw [if_pos g1, if_pos g1]
      · rw [if_neg g1, if_neg g1]
        by_cases g2 : kd i = 4
        · rw [if_pos g2, if_pos g2]
        · rw [if_neg g2, if_neg g2]
          by_cases g3 : kd i = 2
          · rw [if_pos g3, if_pos g3]
          · rw [if_neg g3, if_neg g3]
            have b2 : 25 ≤ kd i ∧ kd i ≤ 34 := by
              rcases bg with z | z | z | z
              · exact absurd z g3
              · exact absurd z g1
              · exact absurd z g2
              · exact z
            unfold spF
            rw [if_neg (show ¬ kd i = 3 by omega), if_neg (show ¬ kd i = 21 by omega), if_neg (show ¬ kd i = 22 by omega), if_neg (show ¬ kd i = 23 by omega), if_neg (show ¬ kd i = 24 by omega), if_neg (show ¬ kd i = 3 by omega), if_neg (show ¬ kd i = 21 by omega), if_neg (show ¬ kd i = 22 by omega)]
theorem expect0_x {n : Nat} {T : Nat → Nat} {m : Nat} {r : Bool} {F i : Nat} {D : List Nat} {h : PH} (S : PaS n T m r F i D h) (hd : D.length ≤ 1000) : okV (F_X5_expect 0 h) (fun h' => (if kdf n T i = 0 then PaS n T m r F i D h' else PaF n T m r F (1 + 16 * tkb n T i) h') ∧ fq [6] K5 h h') := by
  have kl : kdf n T i < 35 := kd_le n T (tkb n T i)
  have hk : h.1 3 3 = nI (kdf n T i) := S.2.2.2.1
  unfold F_X5_expect
  rw [if_pos S.2.2.2.2.2.1, hk]
  by_cases g : kdf n T i = 0
  · have a : F_X5_advance h = some h := by
      unfold F_X5_advance
      rw [hk, if_pos (by rw [g]; rfl)]
    rw [if_pos (by rw [g]; rfl), a]
    refine okV_s ⟨?_, fq_0⟩
    rw [if_pos g]
    exact S
  · rw [if_neg (fun z => g ((n_eq_l 0 (by omega) (by omega)).mp z))]
    obtain ⟨h', e1, e2, e3⟩ := blame_x (k := 1) S hd (by omega) (by omega)
    exact ⟨h', by rw [show F_X5_blame 1 h = _ from e1]; rfl, by rw [if_neg g]; exact e2, e3⟩
theorem rul79 {N : Nat} : ∀ (k i : Nat) (h : PH), i ≤ 1000 → 1000 < k + i → ∃ h', F_X12_rule_b79 N k (nI i) h = some (0, h') ∧ (∀ t, i ≤ t → t < 1000 → h'.1 111 (1000 + t) = h.1 111 (3000 + t)) ∧ (∀ t, t < 1000 + i ∨ 2000 ≤ t → h'.1 111 t = h.1 111 t) ∧ fr [111] h h' := by
  intro k
  induction k with
  | zero => intro i h h1 h2; omega
  | succ k ih =>
    intro i h h1 h2
    rw [F_X12_rule_b79]
    by_cases g : i = 1000
    · subst g
      rw [if_pos (by decide)]
      exact ⟨h, rfl, fun l a b => by omega, fun _ _ => rfl, fr_0⟩
    · rw [if_neg (fun z => by have := (l_le_n 1000 (by omega) (by omega)).mp z; omega), show (3000 : Int32) = nI 3000 from rfl, nI_add, show (1000 : Int32) = nI 1000 from rfl, nI_add, if_pos (nI_in0 (by omega) (by omega)), if_pos (nI_in0 (by omega) (by omega)), nI_clamp (by omega), nI_clamp (by omega), hb_e, ib_e, nI_1]
      obtain ⟨h', q1, q2, q3, q4⟩ := ih (i + 1) (hs h 111 (1000 + i) (h.1 111 (3000 + i))) (by omega) (by omega)
      refine ⟨h', q1, fun t a b => ?_, fun t a => ?_, fr_t (fr_s fr_0 (by decide)) q4⟩
      · by_cases q : t = i
        · subst q
          rw [q3 (1000 + t) (by omega)]
          simp [hs_1]
        · rw [q2 t (by omega) b, hs_1, if_pos rfl, if_neg (by omega)]
      · rw [q3 t (by omega), hs_1, if_pos rfl, if_neg (by omega)]
def RlK : List (Nat × Nat) := [(51, 16), (103, 20), (106, 25), (107, 25)]
def RlS : List Nat := [58, 60, 61, 62]
theorem P_rule {N F : Nat} (hN : 5000 ≤ N) (hF : F ≤ 6) {h : PH} (HFm : HM F h) (I : TI h) : ∃ r h1 h2, F_X11_rule N h = some (r, h1) ∧ F_X12_rule N h1 = some (r, h2) ∧ TI h2 ∧ ((¬ r = 0 ∧ RdF h h2) ∨ (r = 0 ∧ RuI h2 ∧ h2.1 51 16 = h.1 51 16 + 1 ∧ fq (111 :: RlS ++ RdS) (RlK ++ RdK) h h2 ∧ ∀ t, t < 1000 → h2.1 111 t = h.1 111 t)) := by
  obtain ⟨⟨n, T⟩, B, C, M⟩ := I
  have b1 : n ≤ 1000 := B.1
  obtain ⟨k1, s1, m, S1, d1, d7, t1, f1⟩ := start_x (r := true) (F := 0) B C (by omega : 2000 ≤ N) (by omega)
  have R1 : RdF h k1 := RdF_q f1 (by simp [RdS]) (by simp [RdK]) (by decide) (by simp)
  have ci : ∀ a b, 103 ≤ a → k1.1 a b = h.1 a b := fun a b q => f1 a b (by simp; omega) (by simp; omega)
  have jm : m ≤ 1000 := Nat.le_trans S1.1.1.1 b1
  have kl : kdf n T 0 < 35 := kd_le n T (tkb n T 0)
  -- the reference's start
  have mst : ∀ k : PH, (∀ a b, 103 ≤ a → k.1 a b = h.1 a b) → ∃ k2, F_X12_rule N k = (if k2.1 103 7 = 0 then hb (hs k2 103 20 0) (fun h14 => some (0, h14)) else bI (F_X12_reads N k2) (fun r7 h8 => if r7 = 0 then some (h8.1 103 10, h8) else hb (hs h8 103 20 1) (fun h10 => if inb (25 : Int32) 26 = true then hb (hs h10 106 (25 : Int32).toNatClampNeg 1000) (fun h12 => hb (hs h12 107 (25 : Int32).toNatClampNeg (h12.1 103 18 - 2000)) (fun h13 => F_X12_rule_b79 N N 0 h13)) else none))) ∧ MaS n T m true F 3000 3000 0 [] k2 ∧ k2.1 103 2 = 0 ∧ (∀ a b, a < 103 → k2.1 a b = k.1 a b) ∧ RdF k k2 := by
    intro k hk
    unfold F_X12_rule
    simp only [hb_e]
    have M' : TpM (n, T) (hs (hs (hs k 103 0 0) 103 19 1) 103 18 3000) := TpM_o M (fun a b q => by
      simp only [hs_1]
      rcases q with ⟨rfl, rfl⟩ | rfl
      · simp; exact hk 103 2 (by omega)
      · simp; exact hk 104 b (by omega))
    obtain ⟨k2, e6, A2, t2, f2⟩ := takes_x B M' (by omega : 2000 ≤ N)
    rw [e6, bV_s]
    refine ⟨k2, rfl, ⟨A2, Nat.zero_le _, ?_, ?_, ?_, fun t ht => by simp at ht, by simp, by omega, b1, hF, S1.1.1.1, S1.1.1.2.1, S1.1.1.2.2.1⟩, t2, fun a b q => ?_, ?_⟩
    · rw [f2 103 1 (by simp) (by decide)]; simp [hs_1]; rw [hk 103 1 (by omega)]; exact HFm
    · rw [f2 103 19 (by simp) (by decide)]; simp [hs_1]
    · rw [f2 103 18 (by simp) (by decide)]; simp [hs_1]; rfl
    · rw [f2 a b (by simp) (by simp; omega)]
      have : a ≠ 103 := by omega
      simp [hs_1, this]
    · exact RdF_t (RdF_q (S := []) (K := [(103, 0), (103, 19), (103, 18)]) (fq_s (fq_s (fq_s fq_0 (Or.inr (by decide))) (Or.inr (by decide))) (Or.inr (by decide))) (by simp) (by simp [RdK]) (by simp) (by simp)) (RdF_q f2 (by simp) (by simp [RdK]) (by simp) (by simp))
  have hk0 : k1.1 3 3 = nI (kdf n T 0) := S1.2.2.2.1
  -- what setRule does
  have sr : ∀ (c : PH) (s : Nat), c.1 4 6 = nI s → s ≤ 1000 → ∃ H1, F_X6_setRule c = some H1 ∧ (∀ t, t < s → H1.1 60 t = c.1 6 t) ∧ H1.1 61 0 = c.1 7 0 ∧ H1.1 62 0 = c.1 8 0 ∧ H1.1 51 16 = c.1 51 16 + 1 ∧ fq [58, 60, 61, 62] [(51, 16)] c H1 := by
    intro c s h4 hs1
    obtain ⟨h5, e5, p1, p2, p3, f5⟩ := copy_x (o := 58) (Or.inr rfl) h4 hs1
    refine ⟨hs h5 51 16 (h5.1 51 16 + 1), by unfold F_X6_setRule; rw [e5]; rfl, fun t ht => ?_, ?_, ?_, ?_, fq_s (fq_w f5 (by simp) (by simp)) (Or.inr (by decide))⟩
    · rw [hs_1, if_neg (by decide)]; exact p1 t ht
    · rw [hs_1, if_neg (by decide)]; exact (p2 0 (by omega)).1
    · rw [hs_1, if_neg (by decide)]; exact (p2 0 (by omega)).2
    · rw [hs_1, if_pos rfl, if_pos rfl, f5 51 16 (by decide) (by simp)]
  have w1 : ∀ {a b : PH}, RdF a b → fq (111 :: RlS ++ RdS) (RlK ++ RdK) a b := fun f => fq_w f.1 (fun k q => by
    rcases List.mem_cons.mp q with rfl | q
    · simp
    · exact List.mem_append_right _ q) (fun q z => Or.inl (List.mem_append_right _ z))
  have w2 : ∀ {a b : PH}, fq [58, 60, 61, 62] [(51, 16)] a b → fq (111 :: RlS ++ RdS) (RlK ++ RdK) a b := fun f => fq_w f (fun k q => by
    rw [List.mem_append]
    exact Or.inl (List.mem_cons_of_mem _ q)) (fun q z => by simp at z; rw [z]; exact Or.inl (by decide))
  by_cases g0 : kdf n T 0 = 0
  · -- an empty one
    obtain ⟨H1, e2, p1, p2, p3, p4, f2⟩ := sr k1 0 S1.2.2.2.2.2.2.1 (by omega)
    have ci2 : ∀ a b, 103 ≤ a → H1.1 a b = h.1 a b := fun a b q => by
      rw [f2 a b (by simp; omega) (by simp; omega)]; exact ci a b q
    obtain ⟨j2, g1, M2, t2, lo2, R2⟩ := mst H1 ci2
    have kn := kd_num B M2.1 (tkb_le 0).2
    have z7 : j2.1 103 7 = 0 := kn.2.1.mpr g0
    have fin : ∀ a b, a < 103 → (hs j2 103 20 0).1 a b = H1.1 a b := fun a b q => by rw [hs_1, if_neg (by omega), lo2 a b q]
    refine ⟨0, H1, hs j2 103 20 0, ?_, ?_, ⟨(0, T), ⟨by simp, fun i hi => by simp at hi⟩, ⟨?_, fun i hi => by simp at hi⟩, ⟨?_, fun i hi => by simp at hi⟩⟩, Or.inr ⟨rfl, ⟨[], [], false, ?_⟩, ?_, ?_, fun t ht => ?_⟩⟩
    · unfold F_X11_rule F_X5_readRule
      rw [show F_X5_start N 1 0 h = _ from s1, bV_s, hk0, if_pos (by rw [g0]; rfl), bI_s, if_pos rfl, e2]
      rfl
    · rw [g1, if_pos z7]; rfl
    · rw [fin 1 1 (by omega), f2 1 1 (by decide) (by decide)]; exact t1
    · simp [hs_1]; exact t2
    · rw [if_neg (by decide)]
      refine ⟨⟨0, by simp, ?_, ?_, fun t ht => by simp at ht⟩, by simp [hs_1]⟩
      · rw [fin 61 0 (by omega), p2, (d7 0 (by omega)).1]; rfl
      · rw [fin 62 0 (by omega), p3, (d7 0 (by omega)).2]; rfl
    · rw [fin 51 16 (by omega), p4, f1 51 16 (by decide) (by decide)]
    · exact fq_t (w1 R1) (fq_t (w2 f2) (fq_t (w1 R2) (fq_s fq_0 (Or.inr (by decide)))))
    · rw [hs_1, if_neg (by decide), R2.2 t (by omega), ci2 111 t (by omega)]
  · -- one that is read
    have S2 : PaS n T m true 0 0 [] (hs k1 7 0 (k1.1 4 6)) := PaS_o S1 (o78 (Or.inl rfl) (b := 0))
    obtain ⟨c2, e2, P2, f2⟩ := (cG (n := n) (T := T) (m := m) (r := true) (F := 0) (by omega : 2000 ≤ N)).1 0 [] _ (by simp) S2
    rw [spP_F (F := 0) (F' := F) 5] at P2
    have rr : F_X5_readRule N h = bV (F_X5_expect 0 (hs c2 8 0 (c2.1 4 6))) (fun h11 => some (h11.1 3 5, h11)) := by
      unfold F_X5_readRule
      rw [show F_X5_start N 1 0 h = _ from s1, bV_s, hk0, if_neg (fun z => g0 ((n_eq_l 0 (by omega) (by omega)).mp z)), show F_X2_beginLine 4 0 k1 = _ from begin_x (l := 0) (by omega), bV_s, e2, bV_s, show F_X2_endLine 4 0 c2 = _ from endl_x (l := 0) (by omega), bV_s]
    have ciA : ∀ (c : PH), (∀ a b, 103 ≤ a → c.1 a b = c2.1 a b) → ∀ a b, 103 ≤ a → c.1 a b = h.1 a b := fun c hc a b q => by
      rw [hc a b q, f2 a b (by simp; omega) (by simp [K5]; omega), hs_1, if_neg (by omega)]
      exact ci a b q
    have R2 : RdF h (hs c2 8 0 (c2.1 4 6)) := RdF_t R1 (RdF_t (RdF_q (S := [7]) (K := []) (fq_s fq_0 (Or.inl (by decide))) (by simp [RdS]) (by simp) (by simp) (by simp)) (RdF_t (RdF_C (KC_w f2)) (RdF_q (S := [8]) (K := []) (fq_s fq_0 (Or.inl (by decide))) (by simp [RdS]) (by simp) (by simp) (by simp))))
    have fault : ∀ (c : PH) (e : Nat), 0 < e → e < 2 ^ 31 → F_X5_readRule N h = some (nI e, c) → fq [6] K5 (hs c2 8 0 (c2.1 4 6)) c → (∀ k2, MaS n T m true F 3000 3000 0 [] k2 → okI (F_X12_reads N k2) (fun v h' => v = 0 ∧ h'.1 103 10 = nI e ∧ MFr 3000 k2 h')) → ∃ r h1 h2, F_X11_rule N h = some (r, h1) ∧ F_X12_rule N h1 = some (r, h2) ∧ TI h2 ∧ ((¬ r = 0 ∧ RdF h h2) ∨ (r = 0 ∧ RuI h2 ∧ h2.1 51 16 = h.1 51 16 + 1 ∧ fq (111 :: RlS ++ RdS) (RlK ++ RdK) h h2 ∧ ∀ t, t < 1000 → h2.1 111 t = h.1 111 t)) := by
      intro c e e0 e1 er fc mr
      obtain ⟨j2, g1, M2, t2, lo2, Rm⟩ := mst c (ciA c (fun a b q => by rw [fc a b (by simp; omega) (by simp [K5]; omega), hs_1, if_neg (by omega)]))
      have kn := kd_num B M2.1 (tkb_le 0).2
      obtain ⟨v, j3, e3, rfl, q3, f3⟩ := mr j2 M2
      refine ⟨nI e, c, j3, ?_, ?_, ⟨(0, T), ⟨by simp, fun i hi => by simp at hi⟩, ⟨?_, fun i hi => by simp at hi⟩, ⟨?_, fun i hi => by simp at hi⟩⟩, Or.inl ⟨nI_ne0 e0 e1, RdF_t R2 (RdF_t (RdF_C (KC_w fc)) (RdF_t Rm (RdF_L (FLr_m (by omega) f3))))⟩⟩
      · unfold F_X11_rule
        rw [er, bI_s, if_neg (nI_ne0 e0 e1)]
      · rw [g1, if_neg (fun z => g0 (kn.2.1.mp z)), e3, bI_s, if_pos rfl, q3]
      · rw [f3.1 1 1 (by decide) (by decide), lo2 1 1 (by omega), fc 1 1 (by decide) (by decide), hs_1, if_neg (by decide), f2 1 1 (by decide) (by decide), hs_1, if_neg (by decide)]; exact t1
      · rw [f3.1 103 2 (by decide) (by decide), t2]; rfl
    cases hE : spE (kdf n T) (spP true F (kdf n T) (vlf n T) 5) 0 with
    | inl e =>
      obtain ⟨k, j⟩ := e
      rw [hE] at P2
      have P3 : PaF n T m true 0 (k + 16 * tkb n T j) (hs c2 8 0 (c2.1 4 6)) := PaF_o P2 (o78 (Or.inr rfl) (b := 0))
      refine fault _ _ P3.2.2.1 P3.2.2.2.1 ?_ fq_0 (fun k2 M2 => ?_)
      · rw [rr, expectF_x P3, bV_s, P3.2.1]
      · have := reads_x (r := true) B (by omega : 2000 ≤ N) M2 (by omega)
        rw [hE] at this
        exact this
    | inr q =>
      obtain ⟨e, E, Cc⟩ := q
      rw [hE] at P2
      obtain ⟨p1, p2, p3⟩ := P2
      rw [List.nil_append] at p3
      have em : e ≤ m := p3.2.1
      have sE := same_E hF (fun i => kd2 n T (tkb n T i)) hE
      have p4 : PaS n T m true 0 e E (hs c2 8 0 (c2.1 4 6)) := PaS_o p3 (o78 (Or.inr rfl) (b := 0))
      obtain ⟨c3, e3, P3, f3⟩ := expect0_x p4 (by omega)
      by_cases g : kdf n T e = 0
      · rw [if_pos g] at P3
        have er : F_X5_readRule N h = some (0, c3) := by
          rw [rr, e3, bV_s, P3.2.2.2.2.2.1]
        have l6 : c3.1 4 6 = nI E.length := P3.2.2.2.2.2.2.1
        obtain ⟨H1, e5, p1', p2', p3', p4', f5⟩ := sr c3 E.length l6 (by omega)
        have o6 : ∀ t, t < E.length → c3.1 6 t = nI (E.getD t 0) := P3.2.2.2.2.2.2.2.2
        have c7 : c3.1 7 0 = 0 := by
          rw [f3 7 0 (by decide) (by decide), hs_1, if_neg (by decide), f2 7 0 (by decide) (by decide)]
          simp [hs_1]
          exact S1.2.2.2.2.2.2.1
        have c8 : c3.1 8 0 = nI E.length := by
          rw [f3 8 0 (by decide) (by decide)]
          simp [hs_1]
          exact p3.2.2.2.2.2.2.1
        have ci2 : ∀ a b, 103 ≤ a → H1.1 a b = h.1 a b := fun a b q => by
          rw [f5 a b (by simp; omega) (by simp; omega)]
          exact ciA c3 (fun a b q => by rw [f3 a b (by simp; omega) (by simp [K5]; omega), hs_1, if_neg (by omega)]) a b q
        obtain ⟨j2, g1, M2, t2, lo2, Rm⟩ := mst H1 ci2
        have kn := kd_num B M2.1 (tkb_le 0).2
        have rd := reads_x (r := true) B (by omega : 2000 ≤ N) M2 (by omega)
        rw [hE] at rd
        simp only [if_true] at rd
        have rd2 : if kdf n T e = 0 then okI (F_X12_reads N j2) (fun v h' => v = 1 ∧ 0 < e ∧ Cc.length + 0 ≤ e ∧ True ∧ h'.1 103 18 = nI (3000 + Cc.length) ∧ (∀ t, t < Cc.length → h'.1 111 (3000 + t) = nI (Cc.getD t 0)) ∧ MFr 3000 j2 h') else MFa n T 3000 1 e j2 (F_X12_reads N j2) := rd
        rw [if_pos g] at rd2
        obtain ⟨v, j3, e6, rfl, -, a2, -, a4, a5, f6⟩ := rd2
        generalize hK : hs (hs (hs j3 103 20 1) 106 25 1000) 107 25 (nI (1000 + Cc.length)) = j4
        have fK : fq [] RlK j3 j4 := by
          rw [← hK]
          exact fq_s (fq_s (fq_s fq_0 (by decide)) (by decide)) (by decide)
        obtain ⟨J, e7, b2, b3, b4⟩ := rul79 (N := N) N 0 j4 (by omega) (by omega)
        have loJ : ∀ a b, a < 103 → J.1 a b = H1.1 a b := fun a b q => by
          rw [b4 a (by simp; omega), show j4.1 a b = j3.1 a b by rw [← hK, hs_1, if_neg (by omega), hs_1, if_neg (by omega), hs_1, if_neg (by omega)], f6.1 a b (by simp; omega) (by simp [K6]; omega), lo2 a b q]
        refine ⟨0, H1, J, ?_, ?_, ⟨(0, T), ⟨by simp, fun i hi => by simp at hi⟩, ⟨?_, fun i hi => by simp at hi⟩, ⟨?_, fun i hi => by simp at hi⟩⟩, Or.inr ⟨rfl, ⟨E, Cc, true, ?_⟩, ?_, ?_, fun t ht => ?_⟩⟩
        · unfold F_X11_rule
          rw [er, bI_s, if_pos rfl, e5]
          rfl
        · rw [g1, if_neg (fun z => g0 (kn.2.1.mp z)), e6, bI_s, if_neg (by decide)]
          simp only [hb_e]
          rw [if_pos (by decide)]
          have q18 : (hs (hs j3 103 20 1) 106 (25 : Int32).toNatClampNeg 1000).1 103 18 = nI (3000 + Cc.length) := by
            rw [hs_1, if_neg (by decide), hs_1, if_pos rfl, if_neg (by decide)]; exact a4
          rw [q18, show (2000 : Int32) = nI 2000 from rfl, pk_sub (by omega), show 3000 + Cc.length - 2000 = 1000 + Cc.length by omega]
          rw [show hs (hs (hs j3 103 20 1) 106 (25 : Int32).toNatClampNeg 1000) 107 (25 : Int32).toNatClampNeg (nI (1000 + Cc.length)) = j4 from hK]
          exact e7
        · rw [loJ 1 1 (by omega), f5 1 1 (by decide) (by decide), f3 1 1 (by decide) (by decide), hs_1, if_neg (by decide), f2 1 1 (by decide) (by decide), hs_1, if_neg (by decide)]; exact t1
        · rw [b4 103 (by decide), fK 103 2 (by simp) (by decide), f6.1 103 2 (by decide) (by decide), t2]; rfl
        · rw [if_pos rfl]
          refine ⟨sE, ⟨0, by omega, ?_, ?_, fun t ht => ?_⟩, ?_, ?_, ?_, by omega, fun t ht => ?_⟩
          · rw [loJ 61 0 (by omega), p2', c7]; rfl
          · rw [loJ 62 0 (by omega), p3', c8]; simp
          · rw [Nat.zero_add, loJ 60 t (by omega), p1' t ht, o6 t ht]
          · rw [b4 103 (by decide), ← hK]; simp [hs_1]
          · rw [b4 106 (by decide), ← hK]; simp [hs_1]; rfl
          · rw [b4 107 (by decide), ← hK]; simp [hs_1]
          · rw [b2 t (by omega) (by omega), ← hK]
            simp [hs_1]
            exact a5 t ht
        · rw [loJ 51 16 (by omega), p4', f3 51 16 (by decide) (by decide), hs_1, if_neg (by decide), f2 51 16 (by decide) (by decide), hs_1, if_neg (by decide), f1 51 16 (by decide) (by decide)]
        · exact fq_t (w1 R2) (fq_t (w1 (RdF_C (KC_w f3))) (fq_t (w2 f5) (fq_t (w1 Rm) (fq_t (w1 (RdF_L (FLr_m (by omega) f6))) (fq_t (fq_w fK (by simp) (fun q z => Or.inl (List.mem_append_left _ z))) (fq_w (fq_fr (K := []) b4) (by simp) (by simp)))))))
        · rw [b3 t (by omega), fK 111 t (by simp) (by simp [RlK]), f6.2.1 t (by omega), Rm.2 t (by omega), ci2 111 t (by omega)]
      · rw [if_neg g] at P3
        refine fault c3 _ P3.2.2.1 P3.2.2.2.1 ?_ f3 (fun k2 M2 => ?_)
        · rw [rr, e3, bV_s, P3.2.1]
        · have := reads_x (r := true) B (by omega : 2000 ≤ N) M2 (by omega)
          rw [hE] at this
          simp only [if_true] at this
          have t2 : if kdf n T e = 0 then okI (F_X12_reads N k2) (fun v h' => v = 1 ∧ 0 < e ∧ Cc.length + 0 ≤ e ∧ True ∧ h'.1 103 18 = nI (3000 + Cc.length) ∧ (∀ t, t < Cc.length → h'.1 111 (3000 + t) = nI (Cc.getD t 0)) ∧ MFr 3000 k2 h') else MFa n T 3000 1 e k2 (F_X12_reads N k2) := this
          rw [if_neg g] at t2
          exact t2
