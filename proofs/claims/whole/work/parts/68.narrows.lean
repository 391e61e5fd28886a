/-! a test followed, on both sides -/
theorem nI_e32 {a b : Nat} (ha : a < 4294967296) (hb' : b < 4294967296) : nI a = nI b ↔ a = b := by
  constructor
  · intro e
    have : (nI a).toBitVec.toNat = (nI b).toBitVec.toNat := by rw [e]
    rw [show (nI a).toBitVec = BitVec.ofNat 32 a from rfl, show (nI b).toBitVec = BitVec.ofNat 32 b from rfl, BitVec.toNat_ofNat, BitVec.toNat_ofNat, Nat.mod_eq_of_lt (by omega), Nat.mod_eq_of_lt (by omega)] at this
    exact this
  · intro e; rw [e]
def StC (K : Nat) (h : PH) : Prop := h.1 39 13 = nI K ∧ (∀ i, i < 3072 → ∃ m, m ≤ K ∧ h.1 43 i = nI m) ∧ ∀ i, i < 256 → ∃ m, m ≤ K ∧ h.1 40 i = nI m
def StM (K : Nat) (h : PH) : Prop := h.1 103 50 = nI K ∧ ∀ i, i < 3072 → ∃ m, m ≤ K ∧ h.1 133 i = nI m
def bhn (F : Nat) (T : Nat → Int32 → Bool) (q : List ((Nat × Nat × Nat) × Nat × Nat × Nat)) (j x : Nat) : Nat := qIx q (nxt F T (qS q x) j).1
def flw (F : Nat) (T : Nat → Int32 → Bool) (q : List ((Nat × Nat × Nat) × Nat × Nat × Nat)) (j l : Nat) (D : List Nat) : Nat → List Nat
  | 0 => []
  | t + 1 => if lmp T (qS q (bhn F T q j (D.getD t 0))) = l ∧ bhn F T q j (D.getD t 0) ∉ flw F T q j l D t then flw F T q j l D t ++ [bhn F T q j (D.getD t 0)] else flw F T q j l D t
section
variable {F N nv : Nat} {T : Nat → Int32 → Bool} {q : List ((Nat × Nat × Nat) × Nat × Nat × Nat)}
theorem mem_D {D : List Nat} {x : Nat} : x ∈ D ↔ ∃ t, t < D.length ∧ D.getD t 0 = x := by
  constructor
  · intro h
    obtain ⟨t, ht, e⟩ := List.mem_iff_getElem.mp h
    exact ⟨t, ht, by rw [List.getD_eq_getElem?_getD, List.getElem?_eq_getElem ht]; exact e⟩
  · rintro ⟨t, ht, rfl⟩
    rw [List.getD_eq_getElem?_getD, List.getElem?_eq_getElem ht]
    exact List.getElem_mem ht
theorem bhn_lt {j x : Nat} (XX : XF F T q.length 0 q) (hx : x < q.length) (hj : j ≤ F) : bhn F T q j x < q.length := XX x j hj hx (Or.inl hx)
theorem bhn_s {j x : Nat} (XX : XF F T q.length 0 q) (hx : x < q.length) (hj : j ≤ F) : qS q (bhn F T q j x) = (nxt F T (qS q x) j).1 := qIx_s (bhn_lt XX hx hj)
theorem flw_ok {j l : Nat} {D : List Nat} (XX : XF F T q.length 0 q) (hj : j ≤ F) (H : HdD q.length D) : ∀ t, t ≤ D.length → HdD q.length (flw F T q j l D t) ∧ (flw F T q j l D t).length ≤ t ∧ ∀ y, y ∈ flw F T q j l D t → lmp T (qS q y) = l := by
  intro t
  induction t with
  | zero => intro _; exact ⟨⟨fun t ht => by simp [flw] at ht, fun t u _ hu => by simp [flw] at hu⟩, by simp [flw], fun y hy => by simp [flw] at hy⟩
  | succ t ih =>
    intro ht
    obtain ⟨a, b, c⟩ := ih (by omega)
    unfold flw
    by_cases g : lmp T (qS q (bhn F T q j (D.getD t 0))) = l ∧ bhn F T q j (D.getD t 0) ∉ flw F T q j l D t
    · rw [if_pos g]
      refine ⟨HdD_a a (bhn_lt XX (H.1 t (by omega)) hj) (fun u hu z => g.2 (mem_D.mpr ⟨u, hu, z⟩)), by simp; omega, fun y hy => ?_⟩
      rcases List.mem_append.mp hy with z | z
      · exact c y z
      · simp at z; rw [z]; exact g.1
    · rw [if_neg g]
      exact ⟨a, by omega, c⟩
theorem nar25 {j l lv K : Nat} {D : List Nat} (hF : F ≤ 6) (G : QG F q) (XX : XF F T q.length 0 q) (hj : j ≤ F) (hl : l < 256) (hv : lv < 3) (hK : K < 4294967296) (H : HdD q.length D) {h0 : PH} (A : AM F T q h0) (X : XM F T q.length 0 q h0) (Hm : HdM q (3072 * lv) lv D h0) : ∀ (k t : Nat) (h : PH), t ≤ D.length → 3072 < k + t → h.1 103 50 = nI K → (∀ i, i < 3072 → ∃ m, m ≤ K ∧ h.1 133 i = nI m) → (∀ y, y < q.length → (h.1 133 (msN (qS q y)) = nI K ↔ y ∈ flw F T q j l D t)) → (∀ u, u < (flw F T q j l D t).length → h.1 131 (3072 * (lv + 1) + u) = nI (msN (qS q ((flw F T q j l D t).getD u 0)))) → (∀ b, b < 3072 * (lv + 1) → h.1 131 b = h0.1 131 b) → fq [131, 133] [(103, 50)] h0 h → okV (F_X12_narrows_b25 N k (nI lv) (bu j) (nI l) (nI (3072 * (lv + 1))) (nI (flw F T q j l D t).length) (nI t) h) (fun h' => HdM q (3072 * (lv + 1)) (lv + 1) (flw F T q j l D D.length) h' ∧ StM K h' ∧ (∀ b, b < 3072 * (lv + 1) → h'.1 131 b = h0.1 131 b) ∧ fq [131, 133] [(103, 50), (132, lv + 1)] h0 h') := by
  have ql := QD_le G.1 hF
  have dl := HdD_le H
  intro k
  induction k with
  | zero => intro t h h1 h2; omega
  | succ k ih =>
    intro t h h1 h2 s1 s2 s3 s4 s5 ff
    obtain ⟨w1, w2, w3⟩ := flw_ok (T := T) (l := l) XX hj H t h1
    rw [F_X12_narrows_b25, if_pos (nI_in0 (by omega) (by omega)), nI_clamp (by omega), ff 132 lv (by simp) (by simp), Hm.1]
    by_cases g : D.length ≤ t
    · obtain rfl : t = D.length := by omega
      rw [if_pos (nI_le g (by omega))]
      unfold F_X12_narrows_b120
      rw [nI_1, if_pos (nI_in0 (by omega) (by omega)), nI_clamp (by omega), hb_e]
      refine okV_s ⟨⟨by simp [hs_1], fun u hu => ?_⟩, ⟨?_, fun i hi => ?_⟩, fun b hb' => ?_, fq_s (fq_w ff (by simp) (by simp)) (Or.inr (by simp))⟩
      · rw [hs_1, if_neg (by decide)]; exact s4 u hu
      · rw [hs_1, if_neg (by decide)]; exact s1
      · rw [hs_1, if_neg (by decide)]; exact s2 i hi
      · rw [hs_1, if_neg (by decide)]; exact s5 b hb'
    · have hd := H.1 t (by omega)
      have o := G.1.1 _ hd
      have ml := ms_lt o hF
      have hb2 := bhn_lt XX hd hj
      have o2 := G.1.1 _ hb2
      have ml2 := ms_lt o2 hF
      have c131 : h.1 131 (3072 * lv + t) = nI (msN (qS q (D.getD t 0))) := by rw [s5 _ (by omega)]; exact Hm.2 t (by omega)
      have c129 : h.1 129 (7 * msN (qS q (D.getD t 0)) + j) = nI (msN (qS q (bhn F T q j (D.getD t 0)))) := by
        rw [ff 129 _ (by simp) (by simp), X _ j hj hd (Or.inl hd), bhn_s XX hd hj]
      have c130 : h.1 130 (msN (qS q (bhn F T q j (D.getD t 0)))) = nI (lmp T (qS q (bhn F T q j (D.getD t 0)))) := by
        rw [ff 130 _ (by simp) (by simp)]; exact (A.2.1 _ hb2).2.2.2.2
      rw [if_neg (nI_ge (by omega) (by omega)), show (3072 : Int32) = nI 3072 from rfl, pk_mul, nI_add, if_pos (nI_in0 (by omega) (by omega)), nI_clamp (by omega), c131, show (7 : Int32) = nI 7 from rfl, pk_mul, Int32.add_assoc, Int32.add_comm 1 (bu j), bu_1, nI_add, if_pos (nI_in0 (by omega) (by omega)), nI_clamp (by omega), c129, ib_e, if_pos (nI_in0 ml2 (by omega)), nI_clamp (by omega), c130]
      unfold F_X12_narrows_b114
      have lq := lmp_lt (T := T) (s := qS q (bhn F T q j (D.getD t 0)))
      by_cases z : lmp T (qS q (bhn F T q j (D.getD t 0))) = l
      · rw [if_pos (by rw [z]), if_pos (nI_in0 ml2 (by omega)), s1]
        by_cases y : bhn F T q j (D.getD t 0) ∈ flw F T q j l D t
        · rw [if_pos ((s3 _ hb2).mpr y), ib_e, nI_1]
          have e : flw F T q j l D (t + 1) = flw F T q j l D t := by rw [flw, if_neg (fun c => c.2 y)]
          have := ih (t + 1) h (by omega) (by omega) s1 s2 (by rw [e]; exact s3) (by rw [e]; exact s4) s5 ff
          rw [e] at this
          exact this
        · rw [if_neg (fun c => y ((s3 _ hb2).mp c)), if_pos (nI_in0 ml2 (by omega)), hb_e, nI_add, if_pos (nI_in0 (by omega) (by omega)), nI_clamp (by omega), hb_e, ib_e, ib_e, nI_1, nI_1]
          have e : flw F T q j l D (t + 1) = flw F T q j l D t ++ [bhn F T q j (D.getD t 0)] := by rw [flw, if_pos ⟨z, y⟩]
          have := ih (t + 1) (hs (hs h 133 (msN (qS q (bhn F T q j (D.getD t 0)))) (nI K)) 131 (3072 * (lv + 1) + (flw F T q j l D t).length) (nI (msN (qS q (bhn F T q j (D.getD t 0)))))) (by omega) (by omega) (by simp [hs_1]; exact s1) (fun i hi => by
            rw [hs_1, if_neg (by decide), hs_1, if_pos rfl]
            by_cases c : i = msN (qS q (bhn F T q j (D.getD t 0)))
            · rw [if_pos c]; exact ⟨K, Nat.le_refl _, rfl⟩
            · rw [if_neg c]; exact s2 i hi) (fun v hv2 => by
            rw [e, hs_1, if_neg (by decide), hs_1, if_pos rfl, List.mem_append]
            by_cases c : v = bhn F T q j (D.getD t 0)
            · rw [if_pos (by rw [c])]; simp [c]
            · rw [if_neg (fun d => c (by
                have := ms_inj (G.1.1 v hv2) o2 hF d
                rw [← qIx_i G.1 hv2, this, qIx_i G.1 hb2])), s3 v hv2]
              exact ⟨Or.inl, fun d => d.elim id (fun d => absurd (List.mem_singleton.mp d) c)⟩) (fun u hu => by
            rw [e] at hu ⊢
            rw [List.length_append, List.length_singleton] at hu
            rw [hs_1, if_pos rfl]
            by_cases c : u = (flw F T q j l D t).length
            · rw [if_pos (by rw [c]), c, getD_n]
            · rw [if_neg (by omega), hs_1, if_neg (by decide), getD_l (by omega)]
              exact s4 u (by omega)) (fun b hb' => by
            rw [hs_1, if_pos rfl, if_neg (by omega), hs_1, if_neg (by decide)]
            exact s5 b hb') (fq_s (fq_s ff (Or.inl (by simp))) (Or.inl (by simp)))
          rw [e, List.length_append, List.length_singleton] at this
          exact this
      · rw [if_neg (fun c => z ((nI_eq (by omega) (by omega)).mp c)), ib_e, nI_1]
        have e : flw F T q j l D (t + 1) = flw F T q j l D t := by rw [flw, if_neg (fun c => z c.1)]
        have := ih (t + 1) h (by omega) (by omega) s1 s2 (by rw [e]; exact s3) (by rw [e]; exact s4) s5 ff
        rw [e] at this
        exact this
end
