/-! values: of the ops of the class and of the codes of the reference -/
def cAt (h : PH) (k : Nat) (C : List Nat) : Prop := ∀ t, t < C.length → h.1 111 (k + t) = nI (C.getD t 0)
def VF (h h' : PH) : Prop := (∀ c, c < 114 ∨ 122 < c → h'.1 c = h.1 c) ∧ h'.2 = h.2
def Cx (ψ : Nat → Int32) (l kt : Nat) (h : PH) : Prop := l < 26 ∧ h.1 107 l = nI kt ∧ kt ≤ 4000 ∧ ∀ c, c < 60 → h.1 123 c = ψ c
def loE (d : Nat) (h h' : PH) : Prop := ∀ c j, j < d → 114 ≤ c → c ≤ 122 → h'.1 c j = h.1 c j
theorem VF_0 {h : PH} : VF h h := ⟨fun _ _ => rfl, rfl⟩
theorem VF_t {h h' h2 : PH} (a : VF h h') (b : VF h' h2) : VF h h2 := ⟨fun c q => (b.1 c q).trans (a.1 c q), b.2.trans a.2⟩
theorem VF_s {h h' : PH} {c j : Nat} {x : Int32} (a : VF h h') (h1 : 114 ≤ c) (h2 : c ≤ 122) : VF h (hs h' c j x) := ⟨fun e q => by rw [hs_o (by omega)]; exact a.1 e q, a.2⟩
theorem loE_0 {d : Nat} {h : PH} : loE d h h := fun _ _ _ _ _ => rfl
theorem loE_t {d : Nat} {h h' h2 : PH} (a : loE d h h') (b : loE d h' h2) : loE d h h2 := fun c j q q1 q2 => (b c j q q1 q2).trans (a c j q q1 q2)
theorem loE_s {d : Nat} {h h' : PH} {c j : Nat} {x : Int32} (a : loE d h h') (h1 : d ≤ j) : loE d h (hs h' c j x) := fun e i q q1 q2 => by
  rw [hs_1]
  by_cases g : e = c
  · rw [if_pos g, if_neg (by omega)]; exact a e i q q1 q2
  · rw [if_neg g]; exact a e i q q1 q2
theorem VF_Su {d : Nat} {h : PH} : VF h (hSu d h) := VF_s (VF_s VF_0 (by omega) (by omega)) (by omega) (by omega)
theorem VF_Ho {d : Nat} {h : PH} : VF h (hHo d h) := VF_s (VF_s (VF_s (VF_s VF_Su (by omega) (by omega)) (by omega) (by omega)) (by omega) (by omega)) (by omega) (by omega)
theorem VF_Op {d : Nat} {h h' : PH} (a : VF h h') : VF h (hOp d h') := VF_s (VF_s (VF_s (VF_s (VF_s a (by omega) (by omega)) (by omega) (by omega)) (by omega) (by omega)) (by omega) (by omega)) (by omega) (by omega)
theorem loE_Su {d : Nat} {h : PH} : loE d h (hSu d h) := loE_s (loE_s loE_0 (Nat.le_refl _)) (Nat.le_refl _)
theorem loE_Ho {d e : Nat} {h : PH} (he : d ≤ e) : loE d h (hHo e h) := loE_s (loE_s (loE_s (loE_s (loE_s (loE_s loE_0 he) he) he) he) he) he
theorem Cx_v {ψ : Nat → Int32} {l kt : Nat} {h h' : PH} (f : VF h h') (x : Cx ψ l kt h) : Cx ψ l kt h' := ⟨x.1, by rw [f.1 107 (by omega)]; exact x.2.1, x.2.2.1, fun c hc => by rw [f.1 123 (by omega)]; exact x.2.2.2 c hc⟩
theorem cAt_v {h h' : PH} {k : Nat} {C : List Nat} (f : VF h h') (x : cAt h k C) : cAt h' k C := fun t ht => by rw [f.1 111 (by omega)]; exact x t ht
theorem cAt_app {h : PH} {k c : Nat} {C C' : List Nat} (x : cAt h k (C ++ c :: C')) : cAt h k C ∧ h.1 111 (k + C.length) = nI c ∧ cAt h (k + C.length + 1) C' := by
  refine ⟨fun t ht => ?_, ?_, fun t ht => ?_⟩
  · rw [x t (by simp; omega), List.getD_eq_getElem?_getD, List.getD_eq_getElem?_getD, List.getElem?_append_left ht]
  · rw [x C.length (by simp), List.getD_eq_getElem?_getD, List.getElem?_append_right (Nat.le_refl _)]
    simp
  · have := x (C.length + 1 + t) (by simp; omega)
    rw [show k + C.length + 1 + t = k + (C.length + 1 + t) by omega, this, List.getD_eq_getElem?_getD, List.getD_eq_getElem?_getD, List.getElem?_append_right (by omega)]
    rw [show C.length + 1 + t - C.length = t + 1 by omega]
    simp
def VPt (N : Nat) (ψ : Nat → Int32) (C : List Nat) (v : Int32) (d : Nat) : Prop := ∀ h l kt k fu, Cx ψ l kt h → cAt h k C → k + C.length ≤ kt → C.length ≤ fu → ∃ h', F_X12_worth_b14 N fu (nI l) (nI d) (nI k) h = F_X12_worth_b14 N (fu - C.length) (nI l) (nI (popV (h.1 122) d v).1) (nI (k + C.length)) h' ∧ (∀ c j, j ≤ d → 114 ≤ c → c ≤ 122 → (c = 120 → j ≠ (popV (h.1 122) d v).1) → h'.1 c j = h.1 c j) ∧ h'.1 120 (popV (h.1 122) d v).1 = (if h.1 121 (popV (h.1 122) d v).1 = 0 then (popV (h.1 122) d v).2 else h.1 120 (popV (h.1 122) d v).1 * (popV (h.1 122) d v).2) ∧ VF h h'
def preL (L : Nat) (h : PH) (d : Nat) : Prop := (L ≤ 3 → h.1 121 d = 0) ∧ (L ≤ 2 → h.1 118 d = 0 ∧ h.1 119 d = 20) ∧ (L ≤ 1 → h.1 117 d = 0) ∧ (L ≤ 0 → h.1 115 d = 0)
def postL (L : Nat) (h : PH) (d : Nat) (v : Int32) (h' : PH) : Prop := (1 ≤ L → h'.1 114 d = h.1 114 d ∧ h'.1 115 d = h.1 115 d) ∧ (2 ≤ L → h'.1 116 d = h.1 116 d ∧ h'.1 117 d = h.1 117 d) ∧ (3 ≤ L → h'.1 118 d = h.1 118 d ∧ h'.1 119 d = h.1 119 d) ∧ (4 ≤ L → h'.1 121 d = h.1 121 d) ∧ (if L = 0 then aV h' d = v else if L = 1 then tV h' d = v else if L = 2 then sV h' d = v else if L = 3 then h'.1 120 d = v else h'.1 120 d = (if h.1 121 d = 0 then v else h.1 120 d * v))
def VE (N : Nat) (ψ : Nat → Int32) (L : Nat) (C : List Nat) (v : Int32) (d : Nat) : Prop := ∀ h l kt k fu, Cx ψ l kt h → cAt h k C → k + C.length ≤ kt → C.length ≤ fu → (d = 0 ∨ h.1 122 d ≠ 1) → preL L h d → ∃ h', F_X12_worth_b14 N fu (nI l) (nI d) (nI k) h = F_X12_worth_b14 N (fu - C.length) (nI l) (nI d) (nI (k + C.length)) h' ∧ loE d h h' ∧ h'.1 122 d = h.1 122 d ∧ postL L h d v h' ∧ VF h h'
section
variable {N : Nat} {ψ : Nat → Int32} {C C' : List Nat} {v v' : Int32} {d : Nat}
theorem popV_d {bn : Nat → Int32} (h : d = 0 ∨ bn d ≠ 1) : popV bn d v = (d, v) := by
  cases d with
  | zero => rfl
  | succ d =>
    rcases h with h | h
    · omega
    · rw [popV, if_neg h]
theorem popV_le {bn : Nat → Int32} : ∀ d v, (popV bn d v).1 ≤ d := by
  intro d
  induction d with
  | zero => intro v; exact Nat.le_refl _
  | succ d ih =>
    intro v
    rw [popV]
    split
    · have := ih (nt v); omega
    · exact Nat.le_refl _
theorem popV_c {bn bn' : Nat → Int32} : ∀ d v, (∀ e, e ≤ d → bn' e = bn e) → popV bn' d v = popV bn d v := by
  intro d
  induction d with
  | zero => intro v _; rfl
  | succ d ih =>
    intro v h
    rw [popV, popV, h (d + 1) (Nat.le_refl _), ih (nt v) (fun e he => h e (by omega))]
theorem VE4 (H : VPt N ψ C v d) : VE N ψ 4 C v d := by
  intro h l kt k fu x ca hk hf hd _
  obtain ⟨h', e1, e2, e3, e4⟩ := H h l kt k fu x ca hk hf
  rw [popV_d hd] at e1 e2 e3
  dsimp only at e1 e2 e3
  refine ⟨h', e1, fun c j q q1 q2 => e2 c j (by omega) q1 q2 (fun _ => by omega), e2 122 d (Nat.le_refl _) (by omega) (by omega) (fun z => by omega), ⟨fun _ => ⟨e2 114 d (Nat.le_refl _) (by omega) (by omega) (fun z => by omega), e2 115 d (Nat.le_refl _) (by omega) (by omega) (fun z => by omega)⟩, fun _ => ⟨e2 116 d (Nat.le_refl _) (by omega) (by omega) (fun z => by omega), e2 117 d (Nat.le_refl _) (by omega) (by omega) (fun z => by omega)⟩, fun _ => ⟨e2 118 d (Nat.le_refl _) (by omega) (by omega) (fun z => by omega), e2 119 d (Nat.le_refl _) (by omega) (by omega) (fun z => by omega)⟩, fun _ => e2 121 d (Nat.le_refl _) (by omega) (by omega) (fun z => by omega), ?_⟩, e4⟩
  rw [if_neg (by omega), if_neg (by omega), if_neg (by omega), if_neg (by omega)]
  exact e3
theorem VE3 (H : VE N ψ 4 C v d) : VE N ψ 3 C v d := by
  intro h l kt k fu x ca hk hf hd p
  obtain ⟨h', e1, e2, e3, ⟨q1, q2, q3, q4, q5⟩, e4⟩ := H h l kt k fu x ca hk hf hd ⟨fun z => by omega, fun z => by omega, fun z => by omega, fun z => by omega⟩
  refine ⟨h', e1, e2, e3, ⟨fun _ => q1 (by omega), fun _ => q2 (by omega), fun _ => q3 (by omega), fun z => by omega, ?_⟩, e4⟩
  rw [if_neg (by omega), if_neg (by omega), if_neg (by omega), if_neg (by omega), if_pos (p.1 (by omega))] at q5
  rw [if_neg (by omega), if_neg (by omega), if_neg (by omega), if_pos rfl]
  exact q5
theorem VE2 (H : VE N ψ 3 C v d) : VE N ψ 2 C v d := by
  intro h l kt k fu x ca hk hf hd p
  obtain ⟨h', e1, e2, e3, ⟨q1, q2, q3, q4, q5⟩, e4⟩ := H h l kt k fu x ca hk hf hd ⟨fun z => p.1 (by omega), fun z => by omega, fun z => by omega, fun z => by omega⟩
  refine ⟨h', e1, e2, e3, ⟨fun _ => q1 (by omega), fun _ => q2 (by omega), fun z => by omega, fun z => by omega, ?_⟩, e4⟩
  rw [if_neg (by omega), if_neg (by omega), if_neg (by omega), if_pos rfl] at q5
  rw [if_neg (by omega), if_neg (by omega), if_pos rfl]
  unfold sV
  have z := q3 (by omega)
  rw [z.1, z.2, (p.2.1 (by omega)).1, (p.2.1 (by omega)).2, if_neg (by decide), q5, Int32.zero_add]
theorem VE1 (H : VE N ψ 2 C v d) : VE N ψ 1 C v d := by
  intro h l kt k fu x ca hk hf hd p
  obtain ⟨h', e1, e2, e3, ⟨q1, q2, q3, q4, q5⟩, e4⟩ := H h l kt k fu x ca hk hf hd ⟨fun z => p.1 (by omega), fun z => p.2.1 (by omega), fun z => by omega, fun z => by omega⟩
  refine ⟨h', e1, e2, e3, ⟨fun _ => q1 (by omega), fun z => by omega, fun z => by omega, fun z => by omega, ?_⟩, e4⟩
  rw [if_neg (by omega), if_neg (by omega), if_pos rfl] at q5
  rw [if_neg (by omega), if_pos rfl]
  unfold tV
  rw [(q2 (by omega)).2, p.2.2.1 (by omega), if_neg (by decide), if_neg (by decide), q5]
theorem VE0 (H : VE N ψ 1 C v d) : VE N ψ 0 C v d := by
  intro h l kt k fu x ca hk hf hd p
  obtain ⟨h', e1, e2, e3, ⟨q1, q2, q3, q4, q5⟩, e4⟩ := H h l kt k fu x ca hk hf hd ⟨fun z => p.1 (by omega), fun z => p.2.1 (by omega), fun z => p.2.2.1 (by omega), fun z => by omega⟩
  refine ⟨h', e1, e2, e3, ⟨fun z => by omega, fun z => by omega, fun z => by omega, fun z => by omega, ?_⟩, e4⟩
  rw [if_neg (by omega), if_pos rfl] at q5
  rw [if_pos rfl]
  unfold aV
  rw [(q1 (by omega)).2, p.2.2.2 (by omega), if_neg (by decide), if_neg (by decide), q5]
/-- an operator between: first C, then the code c turns the cells by st, then C' -/
theorem VE_seq {L L1 L2 c : Nat} {w : Int32} (hd : d < 7) (H1 : VE N ψ L1 C v d) (H2 : VE N ψ L2 C' v' d) (st : PH → PH) (hst : ∀ h l kt k fu, Cx ψ l kt h → k < kt → h.1 111 k = nI c → F_X12_worth_b14 N (fu + 1) (nI l) (nI d) (nI k) h = F_X12_worth_b14 N fu (nI l) (nI d) (nI (k + 1)) (st h)) (vf : ∀ h, VF h (st h)) (lo : ∀ h, loE d h (st h)) (bn : ∀ h, (st h).1 122 d = h.1 122 d) (p1 : ∀ h, preL L h d → preL L1 h d) (p2 : ∀ h h1, preL L h d → postL L1 h d v h1 → preL L2 (st h1) d) (p3 : ∀ h h1 h2, preL L h d → postL L1 h d v h1 → postL L2 (st h1) d v' h2 → postL L h d w h2) : VE N ψ L (C ++ c :: C') w d := by
  intro h l kt k fu x ca hk hf hn p
  obtain ⟨ca1, cc, ca2⟩ := cAt_app ca
  have lenE : (C ++ c :: C').length = C.length + 1 + C'.length := by simp; omega
  rw [lenE] at hk hf ⊢
  obtain ⟨h1, e1, lo1, b1, q1, f1⟩ := H1 h l kt k fu x ca1 (by omega) (by omega) hn (p1 h p)
  obtain ⟨f, hf'⟩ : ∃ f, fu - C.length = f + 1 := ⟨fu - C.length - 1, by omega⟩
  have s1 := hst h1 l kt (k + C.length) f (Cx_v f1 x) (by omega) (by rw [f1.1 111 (by omega)]; exact cc)
  rw [hf', s1] at e1
  obtain ⟨h2, e2, lo2, b2, q2, f2⟩ := H2 (st h1) l kt (k + C.length + 1) f (Cx_v (vf h1) (Cx_v f1 x)) (cAt_v (vf h1) (cAt_v f1 ca2)) (by omega) (by omega) (by rw [bn, b1]; exact hn) (p2 h h1 p q1)
  rw [e2] at e1
  refine ⟨h2, ?_, loE_t lo1 (loE_t (lo h1) lo2), by rw [b2, bn, b1], p3 h h1 h2 p q1 q2, VF_t f1 (VF_t (vf h1) f2)⟩
  rw [e1, show f - C'.length = fu - (C.length + 1 + C'.length) by omega, show k + C.length + 1 + C'.length = k + (C.length + 1 + C'.length) by omega]
theorem VE_mul (hd : d < 7) (H1 : VE N ψ 3 C v d) (H2 : VE N ψ 4 C' v' d) : VE N ψ 3 (C ++ 22 :: C') (v * v') d := by
  refine VE_seq hd H1 H2 (fun h => hs h 121 d 22) (fun h l kt k fu x hk hc => w_mul x.1 x.2.1 hk x.2.2.1 hd hc) (fun h => VF_s VF_0 (by omega) (by omega)) (fun h => loE_s loE_0 (Nat.le_refl _)) (fun h => by simp [hs_1]) (fun h p => p) (fun h h1 p q => ⟨fun z => by omega, fun z => by omega, fun z => by omega, fun z => by omega⟩) (fun h h1 h2 p q1 q2 => ?_)
  obtain ⟨a1, a2, a3, a4, a5⟩ := q1
  obtain ⟨b1, b2, b3, b4, b5⟩ := q2
  have c1 := b1 (by omega)
  have c2 := b2 (by omega)
  have c3 := b3 (by omega)
  simp [hs_1] at c1 c2 c3 a5 b5
  have d1 := a1 (by omega)
  have d2 := a2 (by omega)
  have d3 := a3 (by omega)
  refine ⟨fun _ => ⟨by rw [c1.1, d1.1], by rw [c1.2, d1.2]⟩, fun _ => ⟨by rw [c2.1, d2.1], by rw [c2.2, d2.2]⟩, fun _ => ⟨by rw [c3.1, d3.1], by rw [c3.2, d3.2]⟩, fun z => by omega, ?_⟩
  rw [if_neg (by omega), if_neg (by omega), if_neg (by omega), if_pos rfl, b5, a5]
theorem VE_pm {c : Nat} (hc : c = 20 ∨ c = 21) (hd : d < 7) (H1 : VE N ψ 2 C v d) (H2 : VE N ψ 3 C' v' d) : VE N ψ 2 (C ++ c :: C') (if c = 21 then v - v' else v + v') d := by
  refine VE_seq hd H1 H2 (fun h => hs (hSu d h) 119 d (nI c)) (fun h l kt k fu x hk hcc => w_pm x.1 x.2.1 hk x.2.2.1 hd hcc (by rcases hc with rfl | rfl; exact Or.inl rfl; exact Or.inr rfl)) (fun h => VF_s VF_Su (by omega) (by omega)) (fun h => loE_s loE_Su (Nat.le_refl _)) (fun h => by unfold hSu; simp [hs_1]) (fun h p => p) (fun h h1 p q => ⟨fun z => by unfold hSu; simp [hs_1], fun z => by omega, fun z => by omega, fun z => by omega⟩) (fun h h1 h2 p q1 q2 => ?_)
  obtain ⟨a1, a2, a3, a4, a5⟩ := q1
  obtain ⟨b1, b2, b3, b4, b5⟩ := q2
  have c1 := b1 (by omega)
  have c2 := b2 (by omega)
  have c3 := b3 (by omega)
  unfold hSu at c1 c2 c3
  simp [hs_1] at c1 c2 c3 a5 b5
  have d1 := a1 (by omega)
  have d2 := a2 (by omega)
  refine ⟨fun _ => ⟨by rw [c1.1, d1.1], by rw [c1.2, d1.2]⟩, fun _ => ⟨by rw [c2.1, d2.1], by rw [c2.2, d2.2]⟩, fun z => by omega, fun z => by omega, ?_⟩
  rw [if_neg (by omega), if_neg (by omega), if_pos rfl]
  unfold sV
  rw [c3.1, c3.2, b5, a5]
  rcases hc with rfl | rfl
  · rw [if_neg (by decide), if_neg (by decide)]
  · rw [if_pos (by decide), if_pos (by decide)]
theorem VE_cmp {c : Nat} (hc : c = 24 ∨ c = 25) (hd : d < 7) (H1 : VE N ψ 2 C v d) (H2 : VE N ψ 2 C' v' d) : VE N ψ 1 (C ++ c :: C') (if c = 24 then (if v < v' then 1 else 0) else (if v = v' then 1 else 0)) d := by
  refine VE_seq hd H1 H2 (fun h => hCm d (nI c) h) (fun h l kt k fu x hk hcc => w_cmp x.1 x.2.1 hk x.2.2.1 hd hcc (by rcases hc with rfl | rfl; exact Or.inl rfl; exact Or.inr rfl)) (fun h => VF_s (VF_s (VF_s (VF_s VF_Su (by omega) (by omega)) (by omega) (by omega)) (by omega) (by omega)) (by omega) (by omega)) (fun h => loE_s (loE_s (loE_s (loE_s loE_Su (Nat.le_refl _)) (Nat.le_refl _)) (Nat.le_refl _)) (Nat.le_refl _)) (fun h => by unfold hCm hSu; simp [hs_1]) (fun h p => ⟨fun z => p.1 (by omega), fun z => p.2.1 (by omega), fun z => by omega, fun z => by omega⟩) (fun h h1 p q => ⟨fun z => by unfold hCm hSu; simp [hs_1], fun z => by unfold hCm hSu; simp [hs_1], fun z => by omega, fun z => by omega⟩) (fun h h1 h2 p q1 q2 => ?_)
  obtain ⟨a1, a2, a3, a4, a5⟩ := q1
  obtain ⟨b1, b2, b3, b4, b5⟩ := q2
  have c1 := b1 (by omega)
  have c2 := b2 (by omega)
  unfold hCm hSu at c1 c2
  simp [hs_1] at c1 c2 a5 b5
  have d1 := a1 (by omega)
  refine ⟨fun _ => ⟨by rw [c1.1, d1.1], by rw [c1.2, d1.2]⟩, fun z => by omega, fun z => by omega, fun z => by omega, ?_⟩
  rw [if_neg (by omega), if_pos rfl]
  unfold tV
  rw [c2.1, c2.2, b5, a5]
  rcases hc with rfl | rfl
  · rw [if_pos (by decide), if_pos rfl]
  · rw [if_neg (show ¬ nI 25 = (24 : Int32) by decide), if_pos (show nI 25 = (25 : Int32) by decide), if_neg (show ¬ (25 : Nat) = 24 by decide)]
theorem VE_log {c : Nat} (hc : c = 26 ∨ c = 27) (hd : d < 7) (H1 : VE N ψ 0 C v d) (H2 : VE N ψ 1 C' v' d) : VE N ψ 0 (C ++ c :: C') (if c = 26 then (if v ≠ 0 ∧ v' ≠ 0 then 1 else 0) else (if v ≠ 0 ∨ v' ≠ 0 then 1 else 0)) d := by
  refine VE_seq hd H1 H2 (fun h => hs (hHo d h) 115 d (nI c)) (fun h l kt k fu x hk hcc => w_log x.1 x.2.1 hk x.2.2.1 hd hcc (by rcases hc with rfl | rfl; exact Or.inl rfl; exact Or.inr rfl)) (fun h => VF_s VF_Ho (by omega) (by omega)) (fun h => loE_s (loE_Ho (Nat.le_refl _)) (Nat.le_refl _)) (fun h => by unfold hHo hSu; simp [hs_1]) (fun h p => p) (fun h h1 p q => ⟨fun z => by unfold hHo hSu; simp [hs_1], fun z => by unfold hHo hSu; simp [hs_1], fun z => by unfold hHo hSu; simp [hs_1], fun z => by omega⟩) (fun h h1 h2 p q1 q2 => ?_)
  obtain ⟨a1, a2, a3, a4, a5⟩ := q1
  obtain ⟨b1, b2, b3, b4, b5⟩ := q2
  have c1 := b1 (by omega)
  unfold hHo hSu at c1
  simp [hs_1] at c1 a5 b5
  refine ⟨fun z => by omega, fun z => by omega, fun z => by omega, fun z => by omega, ?_⟩
  rw [if_pos rfl]
  unfold aV
  rw [c1.1, c1.2, b5, a5]
  rcases hc with rfl | rfl
  · rw [if_pos (by decide), if_pos rfl]
  · rw [if_neg (show ¬ nI 27 = (26 : Int32) by decide), if_pos (show nI 27 = (27 : Int32) by decide), if_neg (show ¬ (27 : Nat) = 26 by decide)]
theorem VP_leaf {c : Nat} (hN : 100 ≤ N) (hd : d < 7) (hv : (c < 20 ∧ v = ψ c) ∨ (40 ≤ c ∧ c < 60 ∧ v = ψ c) ∨ (100 ≤ c ∧ c < 20000 ∧ v = nI (c - 100))) : VPt N ψ [c] v d := by
  intro h l kt k fu x ca hk hf
  simp at hk hf
  obtain ⟨f, rfl⟩ : ∃ f, fu = f + 1 := ⟨fu - 1, by omega⟩
  have c0 : h.1 111 k = nI c := by simpa using ca 0 (by simp)
  have w := w_leaf (N := N) (fu := f) (d := d) hN x.1 x.2.1 (by omega) x.2.2.1 hd (v := v) c0 (by
    rcases hv with ⟨a, b⟩ | ⟨a, b, e⟩ | e
    · exact Or.inl ⟨a, by rw [x.2.2.2 c (by omega)]; exact b⟩
    · exact Or.inr (Or.inl ⟨a, b, by rw [x.2.2.2 c (by omega)]; exact e⟩)
    · exact Or.inr (Or.inr e))
  refine ⟨dlv h d v, by rw [w]; rfl, fun c j hj q1 q2 q3 => ?_, ?_, VF_s VF_0 (by omega) (by omega)⟩
  · unfold dlv
    rw [hs_1]
    by_cases g : c = 120
    · rw [if_pos g, if_neg (q3 g)]
    · rw [if_neg g]
  · unfold dlv
    simp [hs_1]
theorem VP_not (hd : d < 6) (H : VPt N ψ C v (d + 1)) : VPt N ψ (30 :: C) (nt v) d := by
  intro h l kt k fu x ca hk hf
  rw [List.length_cons] at hk hf ⊢
  obtain ⟨-, cc, ca2⟩ := cAt_app (C := []) (c := 30) (C' := C) ca
  simp at cc ca2
  obtain ⟨f, rfl⟩ : ∃ f, fu = f + 1 := ⟨fu - 1, by omega⟩
  have w := w_open (N := N) (fu := f) (k := k) (d := d) true x.1 x.2.1 (by omega) x.2.2.1 hd (by rw [cc]; rfl)
  rw [if_pos rfl] at w
  have vf : VF h (hOp (d + 1) (hs h 122 (d + 1) 1)) := VF_Op (VF_s VF_0 (by omega) (by omega))
  have lo : loE (d + 1) h (hOp (d + 1) (hs h 122 (d + 1) 1)) := loE_s (loE_s (loE_s (loE_s (loE_s (loE_s loE_0 (Nat.le_refl _)) (Nat.le_refl _)) (Nat.le_refl _)) (Nat.le_refl _)) (Nat.le_refl _)) (Nat.le_refl _)
  have bn : (hOp (d + 1) (hs h 122 (d + 1) 1)).1 122 (d + 1) = 1 := by unfold hOp; simp [hs_1]
  obtain ⟨h', e1, e2, e3, e4⟩ := H _ l kt (k + 1) f (Cx_v vf x) (cAt_v vf ca2) (by omega) (by omega)
  have pp : popV ((hOp (d + 1) (hs h 122 (d + 1) 1)).1 122) (d + 1) v = popV (h.1 122) d (nt v) := by
    rw [popV, if_pos bn]
    exact popV_c d (nt v) (fun e he => lo 122 e (by omega) (by omega) (by omega))
  rw [pp] at e1 e2 e3
  have pl := popV_le (bn := h.1 122) d (nt v)
  refine ⟨h', ?_, fun c j hj q1 q2 q3 => ?_, ?_, VF_t vf e4⟩
  · rw [w, e1, show f + 1 - (C.length + 1) = f - C.length by omega, show k + 1 + C.length = k + (C.length + 1) by omega]
  · rw [e2 c j (by omega) q1 q2 q3, lo c j (by omega) q1 q2]
  · rw [e3, lo 121 _ (by omega) (by omega) (by omega), lo 120 _ (by omega) (by omega) (by omega)]
theorem VP_par (hN : 100 ≤ N) (hd : d < 5) (H : VE N ψ 0 C v (d + 1)) : VPt N ψ (28 :: (C ++ [29])) v d := by
  intro h l kt k fu x ca hk hf
  have lenE : (28 :: (C ++ [29])).length = C.length + 2 := by simp
  rw [lenE] at hk hf ⊢
  obtain ⟨-, cc, ca2⟩ := cAt_app (C := []) (c := 28) (C' := C ++ [29]) ca
  simp at cc ca2
  obtain ⟨ca3, c29, -⟩ := cAt_app (C := C) (c := 29) (C' := []) ca2
  obtain ⟨f, rfl⟩ : ∃ f, fu = f + 1 := ⟨fu - 1, by omega⟩
  have w := w_open (N := N) (fu := f) (k := k) (d := d) false x.1 x.2.1 (by omega) x.2.2.1 (by omega : d < 6) (by rw [cc]; rfl)
  rw [if_neg (show ¬ false = true by decide)] at w
  have vf : VF h (hOp (d + 1) (hs h 122 (d + 1) 0)) := VF_Op (VF_s VF_0 (by omega) (by omega))
  have lo : loE (d + 1) h (hOp (d + 1) (hs h 122 (d + 1) 0)) := loE_s (loE_s (loE_s (loE_s (loE_s (loE_s loE_0 (Nat.le_refl _)) (Nat.le_refl _)) (Nat.le_refl _)) (Nat.le_refl _)) (Nat.le_refl _)) (Nat.le_refl _)
  have bn : (hOp (d + 1) (hs h 122 (d + 1) 0)).1 122 (d + 1) = 0 := by unfold hOp; simp [hs_1]
  obtain ⟨h1, e1, lo1, b1, q, f1⟩ := H _ l kt (k + 1) f (Cx_v vf x) (cAt_v vf ca3) (by omega) (by omega) (Or.inr (by rw [bn]; decide)) ⟨fun _ => by unfold hOp; simp [hs_1], fun _ => by unfold hOp; simp [hs_1], fun _ => by unfold hOp; simp [hs_1], fun _ => by unfold hOp; simp [hs_1]⟩
  have av : aV h1 (d + 1) = v := by have := q.2.2.2.2; rw [if_pos rfl] at this; exact this
  obtain ⟨g, hg⟩ : ∃ g, f - C.length = g + 1 := ⟨f - C.length - 1, by omega⟩
  have w2 := w_close (N := N) (fu := g) (d := d) (k := k + 1 + C.length) hN x.1 (Cx_v f1 (Cx_v vf x)).2.1 (by omega) x.2.2.1 (by omega) (by rw [f1.1 111 (by omega), vf.1 111 (by omega)]; exact c29)
  rw [av] at w2
  have lo2 : loE (d + 1) h1 (hHo (d + 1) h1) := loE_Ho (Nat.le_refl _)
  have loA : loE (d + 1) h (hHo (d + 1) h1) := loE_t lo (loE_t lo1 lo2)
  have pp : popV ((hHo (d + 1) h1).1 122) d v = popV (h.1 122) d v := popV_c d v (fun e he => loA 122 e (by omega) (by omega) (by omega))
  have pl := popV_le (bn := h.1 122) d v
  rw [pp] at w2
  refine ⟨dlv (hHo (d + 1) h1) d v, ?_, fun c j hj q1 q2 q3 => ?_, ?_, VF_t vf (VF_t f1 (VF_s VF_Ho (by omega) (by omega)))⟩
  · rw [w, e1, hg, w2, show f + 1 - (C.length + 2) = g by omega, show k + 1 + C.length + 1 = k + (C.length + 2) by omega]
  · unfold dlv
    rw [pp, hs_1]
    by_cases g : c = 120
    · rw [if_pos g, if_neg (q3 g), loA c j (by omega) q1 q2]
    · rw [if_neg g, loA c j (by omega) q1 q2]
  · unfold dlv
    rw [pp, hs_1, if_pos rfl, if_pos rfl, loA 121 _ (by omega) (by omega) (by omega), loA 120 _ (by omega) (by omega) (by omega)]
end
/-! the told language has values, the same on both sides -/
/-- facts alike: the class's leaves φ, the reference's codes ψ -/
def Agr (r : Bool) (φ : Nat → Nat → Int32) (ψ : Nat → Int32) : Prop := (∀ a, φ 2 a = nI a) ∧ (if r then ∀ a, a < 10 → φ 25 a = ψ (a + 1) else (∀ a, a < 8 → φ 3 a = ψ (1 + a)) ∧ (∀ a, a < 6 → φ 3 (8 + a) = ψ (40 + a)) ∧ (∀ a, a < 6 → φ 3 (14 + a) = ψ (50 + a)) ∧ φ 3 20 = ψ 9 ∧ φ 3 21 = ψ 10)
/-- the ops E give v on any stack with room for m more -/
def Rp (φ : Nat → Nat → Int32) (m : Nat) (E : List Nat) (v : Int32) : Prop := (∀ x, x ∈ E → x < 2147483648) ∧ ∀ st : List Int32, st.length + m ≤ 32 → rpn φ E st = some (v :: st)
theorem Rp_w {φ : Nat → Nat → Int32} {m m' : Nat} {E : List Nat} {v : Int32} (h : m ≤ m') (H : Rp φ m E v) : Rp φ m' E v := ⟨H.1, fun st hs => H.2 st (by omega)⟩
theorem Rp_op {φ : Nat → Nat → Int32} {m k : Nat} {E E' : List Nat} {v v' : Int32} (hk : k < 64) (h2 : k ≠ 2) (h3 : k ≠ 3) (h25 : k ≠ 25) (h18 : k ≠ 18) (H : Rp φ (m + 1) E v) (H' : Rp φ m E' v') : Rp φ (m + 1) (E ++ E' ++ [k]) (jn k v v') := by
  refine ⟨fun x hx => ?_, fun st hs => ?_⟩
  · simp at hx
    rcases hx with q | q | q
    · exact H.1 x q
    · exact H'.1 x q
    · omega
  · have km : k % 64 = k := Nat.mod_eq_of_lt hk
    rw [List.append_assoc, rpn_app E _ st _ (H.2 st (by omega)), rpn_app E' _ _ _ (H'.2 (v :: st) (by simp; omega)), rpn_c, km, if_neg (by omega), if_neg h18]
    rfl
theorem Rp_not {φ : Nat → Nat → Int32} {m : Nat} {E : List Nat} {v : Int32} (H : Rp φ m E v) : Rp φ m (E ++ [18]) (nt v) := by
  refine ⟨fun x hx => ?_, fun st hs => ?_⟩
  · simp at hx
    rcases hx with q | q
    · exact H.1 x q
    · omega
  · rw [rpn_app E _ st _ (H.2 st hs), rpn_c, if_neg (by decide), if_pos (by decide)]
    rfl
theorem Rp_leaf {φ : Nat → Nat → Int32} {k a : Nat} (hk : k = 2 ∨ k = 3 ∨ k = 25) (ha : a < 10000) : Rp φ 1 [k + 64 * a] (φ k a) := by
  have e1 : (k + 64 * a) % 64 = k := by omega
  have e2 : (k + 64 * a) / 64 = a := by omega
  refine ⟨fun x hx => ?_, fun st hs => ?_⟩
  · simp at hx
    omega
  · rw [rpn_c, e1, e2, if_pos hk, if_pos (by omega)]
    rfl
/-- what a PART, an E that was read is worth -/
def VX (N : Nat) (φ : Nat → Nat → Int32) (ψ : Nat → Int32) (L d m : Nat) (x : PO) : Prop := match x with
  | .inl _ => True
  | .inr (_, E, C) => ∃ v, Rp φ m E v ∧ VE N ψ L C v d
def VXP (N : Nat) (φ : Nat → Nat → Int32) (ψ : Nat → Int32) (d m : Nat) (x : PO) : Prop := match x with
  | .inl _ => True
  | .inr (_, E, C) => ∃ v, Rp φ m E v ∧ VPt N ψ C v d
section
variable {N : Nat} {φ : Nat → Nat → Int32} {ψ : Nat → Int32} {kd : Nat → Nat} {d : Nat}
theorem vx_loop {L m : Nat} (hd : d < 7) (hL : L ≤ 3) {sub : Nat → PO} (H : ∀ i, VX N φ ψ (L + 1) d m (sub i)) : ∀ t j E C, VX N φ ψ (if L = 1 then 2 else L) d (m + 1) (.inr (j, E, C)) → VX N φ ψ L d (m + 1) (spLp kd L sub t j E C) := by
  have lift : ∀ j E C, VX N φ ψ (if L = 1 then 2 else L) d (m + 1) (.inr (j, E, C)) → VX N φ ψ L d (m + 1) (.inr (j, E, C)) := by
    intro j E C h
    by_cases g : L = 1
    · rw [if_pos g] at h
      obtain ⟨v, h1, h2⟩ := h
      subst g
      exact ⟨v, h1, VE1 h2⟩
    · rw [if_neg g] at h
      exact h
  intro t
  induction t with
  | zero => intro j E C h; exact lift j E C h
  | succ t ih =>
    intro j E C h
    unfold spLp
    by_cases g : lvl (kd j) = L
    · rw [if_pos g]
      have sb := H (j + 1)
      cases hs : sub (j + 1) with
      | inl e => trivial
      | inr q =>
        obtain ⟨j', E', C'⟩ := q
        rw [hs] at sb
        obtain ⟨v, r1, e1⟩ := h
        obtain ⟨v', r2, e2⟩ := sb
        have hk := lvl_k g hL
        have rp := Rp_op (k := kd j) (by omega) (by omega) (by omega) (by omega) (by omega) r1 r2
        have key : VE N ψ L (C ++ opc (kd j) :: C') (jn (kd j) v v') d := by
          rcases hk with ⟨q0, q⟩ | ⟨q0, q⟩ | ⟨q0, q⟩ | ⟨q0, q⟩
          · subst q0
            rw [if_neg (by omega)] at e1
            rcases q with q | q <;> rw [q]
            · exact VE_log (c := 26) (Or.inl rfl) hd e1 e2
            · exact VE_log (c := 27) (Or.inr rfl) hd e1 e2
          · subst q0
            rw [if_pos rfl] at e1
            rcases q with q | q <;> rw [q]
            · exact VE_cmp (c := 24) (Or.inl rfl) hd e1 e2
            · exact VE_cmp (c := 25) (Or.inr rfl) hd e1 e2
          · subst q0
            rw [if_neg (by omega)] at e1
            rcases q with q | q <;> rw [q]
            · exact VE_pm (c := 20) (Or.inl rfl) hd e1 e2
            · exact VE_pm (c := 21) (Or.inr rfl) hd e1 e2
          · subst q0
            rw [if_neg (by omega)] at e1
            rw [q]
            exact VE_mul hd e1 e2
        show VX N φ ψ L d (m + 1) (if L = 1 then .inr (j', E ++ E' ++ [kd j], C ++ opc (kd j) :: C') else spLp kd L sub t j' (E ++ E' ++ [kd j]) (C ++ opc (kd j) :: C'))
        by_cases g1 : L = 1
        · rw [if_pos g1]
          exact ⟨_, rp, key⟩
        · rw [if_neg g1]
          refine ih j' _ _ ?_
          rw [if_neg g1]
          exact ⟨_, rp, key⟩
    · rw [if_neg g]
      exact lift j E C h
theorem vx_lv {L m : Nat} (hd : d < 7) (hL : L ≤ 3) {sub : Nat → PO} (H : ∀ i, VX N φ ψ (L + 1) d m (sub i)) : ∀ i, VX N φ ψ L d (m + 1) (spLv kd L sub i) := by
  intro i
  unfold spLv
  have sb := H i
  cases hs : sub i with
  | inl e => trivial
  | inr q =>
    obtain ⟨j, E, C⟩ := q
    rw [hs] at sb
    obtain ⟨v, r1, e1⟩ := sb
    refine vx_loop hd hL H 1000 j E C ?_
    have r2 := Rp_w (show m ≤ m + 1 by omega) r1
    rcases (show L = 0 ∨ L = 1 ∨ L = 2 ∨ L = 3 by omega) with rfl | rfl | rfl | rfl
    · exact ⟨v, r2, VE0 e1⟩
    · exact ⟨v, r2, e1⟩
    · exact ⟨v, r2, VE2 e1⟩
    · exact ⟨v, r2, VE3 e1⟩
theorem vx_E {m : Nat} (hd : d < 7) {sub : Nat → PO} (H : ∀ i, VXP N φ ψ d m (sub i)) : ∀ i, VX N φ ψ 0 d (m + 4) (spE kd sub i) := by
  have h4 : ∀ i, VX N φ ψ 4 d m (sub i) := fun i => by
    have := H i
    cases hs : sub i with
    | inl e => trivial
    | inr q =>
      rw [hs] at this
      obtain ⟨v, r1, e1⟩ := this
      exact ⟨v, r1, VE4 e1⟩
  exact vx_lv hd (by omega) (vx_lv hd (by omega) (vx_lv hd (by omega) (vx_lv hd (by omega) h4)))
theorem vx_P {r : Bool} {F : Nat} {vl : Nat → Nat} (hN : 100 ≤ N) (hF : F ≤ 6) (A : Agr r φ ψ) (kv : ∀ i, (kd i = 2 → vl i < 10000) ∧ (kd i = 3 → vl i < 8)) : ∀ q d, q + d = 5 → ∀ i, VXP N φ ψ d (1 + 4 * q) (spP r F kd vl q i) := by
  intro q
  induction q with
  | zero =>
    intro d hd i
    unfold spP
    split <;> trivial
  | succ q ih =>
    intro d hd i
    unfold spP
    cases hb : begs r (kd i) with
    | false => rw [if_neg (show ¬ false = true by decide)]; trivial
    | true =>
      rw [if_pos (show true = true from rfl)]
      have bg := of_decide_eq_true hb
      by_cases g1 : kd i = 18
      · rw [if_pos g1]
        have sb := ih (d + 1) (by omega) (i + 1)
        cases hs : spP r F kd vl q (i + 1) with
        | inl e => trivial
        | inr z =>
          obtain ⟨j, E, C⟩ := z
          rw [hs] at sb
          obtain ⟨v, r1, e1⟩ := sb
          exact ⟨nt v, Rp_w (by omega) (Rp_not r1), VP_not (by omega) e1⟩
      · rw [if_neg g1]
        by_cases g2 : kd i = 4
        · rw [if_pos g2]
          have sb := vx_E (kd := kd) (by omega : d + 1 < 7) (ih (d + 1) (by omega)) (i + 1)
          cases hs : spE kd (spP r F kd vl q) (i + 1) with
          | inl e => trivial
          | inr z =>
            obtain ⟨j, E, C⟩ := z
            rw [hs] at sb
            obtain ⟨v, r1, e1⟩ := sb
            show VXP N φ ψ d (1 + 4 * (q + 1)) (if kd j = 5 then .inr (j + 1, E, 28 :: (C ++ [29])) else .inl (1, j))
            by_cases g5 : kd j = 5
            · rw [if_pos g5]
              exact ⟨v, Rp_w (by omega) r1, VP_par hN (by omega) e1⟩
            · rw [if_neg g5]
              trivial
        · rw [if_neg g2]
          by_cases g3 : kd i = 2
          · rw [if_pos g3]
            have := (kv i).1 g3
            exact ⟨_, Rp_w (by omega) (Rp_leaf (Or.inl rfl) this), VP_leaf hN (by omega) (Or.inr (Or.inr ⟨by omega, by omega, by rw [A.1]; congr 1; omega⟩))⟩
          · rw [if_neg g3]
            unfold spF
            cases r with
            | true =>
              have b2 : 25 ≤ kd i ∧ kd i ≤ 34 := by
                rcases bg with z | z | z | z
                · exact absurd z g3
                · exact absurd z g1
                · exact absurd z g2
                · exact z
              have A2 : ∀ a, a < 10 → φ 25 a = ψ (a + 1) := A.2
              rw [if_neg (by omega), if_neg (by omega), if_neg (by omega), if_neg (by omega), if_neg (by omega)]
              exact ⟨_, Rp_w (by omega) (Rp_leaf (Or.inr (Or.inr rfl)) (by omega)), VP_leaf hN (by omega) (Or.inl ⟨by omega, by rw [A2 _ (by omega)]; congr 1; omega⟩)⟩
            | false =>
              have b2 : kd i = 3 ∨ (21 ≤ kd i ∧ kd i ≤ 24) := by
                rcases bg with z | z | z | z
                · exact absurd z g3
                · exact absurd z g1
                · exact absurd z g2
                · exact z
              obtain ⟨a1, a2, a3, a4, a5⟩ : (∀ a, a < 8 → φ 3 a = ψ (1 + a)) ∧ (∀ a, a < 6 → φ 3 (8 + a) = ψ (40 + a)) ∧ (∀ a, a < 6 → φ 3 (14 + a) = ψ (50 + a)) ∧ φ 3 20 = ψ 9 ∧ φ 3 21 = ψ 10 := A.2
              by_cases q3 : kd i = 3
              · rw [if_pos q3]
                have := (kv i).2 q3
                exact ⟨_, Rp_w (by omega) (Rp_leaf (Or.inr (Or.inl rfl)) (by omega)), VP_leaf hN (by omega) (Or.inl ⟨by omega, a1 _ this⟩)⟩
              · rw [if_neg q3]
                by_cases q21 : kd i = 21
                · rw [if_pos q21]
                  by_cases z1 : kd (i + 1) = 2
                  · rw [if_pos z1]
                    by_cases z2 : vl (i + 1) < F
                    · rw [if_pos z2]
                      exact ⟨_, Rp_w (by omega) (Rp_leaf (Or.inr (Or.inl rfl)) (by omega)), VP_leaf hN (by omega) (Or.inr (Or.inl ⟨by omega, by omega, a2 _ (by omega)⟩))⟩
                    · rw [if_neg z2]; trivial
                  · rw [if_neg z1]; trivial
                · rw [if_neg q21]
                  by_cases q22 : kd i = 22
                  · rw [if_pos q22]
                    by_cases z1 : kd (i + 1) = 2
                    · rw [if_pos z1]
                      by_cases z2 : vl (i + 1) < F
                      · rw [if_pos z2]
                        exact ⟨_, Rp_w (by omega) (Rp_leaf (Or.inr (Or.inl rfl)) (by omega)), VP_leaf hN (by omega) (Or.inr (Or.inl ⟨by omega, by omega, a3 _ (by omega)⟩))⟩
                      · rw [if_neg z2]; trivial
                    · rw [if_neg z1]; trivial
                  · rw [if_neg q22]
                    by_cases q23 : kd i = 23
                    · rw [if_pos q23]
                      exact ⟨_, Rp_w (by omega) (Rp_leaf (Or.inr (Or.inl rfl)) (by omega)), VP_leaf hN (by omega) (Or.inl ⟨by omega, a4⟩)⟩
                    · rw [if_neg q23, if_pos (by omega)]
                      exact ⟨_, Rp_w (by omega) (Rp_leaf (Or.inr (Or.inl rfl)) (by omega)), VP_leaf hN (by omega) (Or.inl ⟨by omega, a5⟩)⟩
end
/-- ops and codes that are worth the same, whatever the facts -/
def Same (r : Bool) (E C : List Nat) : Prop := (∀ x, x ∈ E → x < 2147483648) ∧ ∀ (N : Nat) φ ψ, 100 ≤ N → Agr r φ ψ → ∃ v, rpn φ E [] = some [v] ∧ VE N ψ 0 C v 0
theorem same_E {r : Bool} {F : Nat} {kd vl : Nat → Nat} (hF : F ≤ 6) (kv : ∀ i, (kd i = 2 → vl i < 10000) ∧ (kd i = 3 → vl i < 8)) {i j : Nat} {E C : List Nat} (h : spE kd (spP r F kd vl 5) i = .inr (j, E, C)) : Same r E C := by
  have key : ∀ (N : Nat) φ ψ, 100 ≤ N → Agr r φ ψ → ∃ v, Rp φ 25 E v ∧ VE N ψ 0 C v 0 := fun N φ ψ hN A => by
    have := vx_E (N := N) (kd := kd) (by omega : 0 < 7) (vx_P (kd := kd) (vl := vl) hN hF A kv 5 0 (by omega)) i
    rw [h] at this
    exact this
  refine ⟨?_, fun N φ ψ hN A => ?_⟩
  · cases r with
    | true =>
      obtain ⟨v, r1, -⟩ := key 100 (fun k a => if k = 2 then nI a else 0) (fun _ => 0) (Nat.le_refl _) ⟨fun a => rfl, fun a ha => rfl⟩
      exact r1.1
    | false =>
      obtain ⟨v, r1, -⟩ := key 100 (fun k a => if k = 2 then nI a else 0) (fun _ => 0) (Nat.le_refl _) ⟨fun a => rfl, fun a ha => rfl, fun a ha => rfl, fun a ha => rfl, rfl, rfl⟩
      exact r1.1
  · obtain ⟨v, r1, e1⟩ := key N φ ψ hN A
    exact ⟨v, r1.2 [] (by simp), e1⟩
theorem worth_x {N l k : Nat} {ψ : Nat → Int32} {C : List Nat} {v : Int32} {h : PH} (hN : 5000 ≤ N) (hl : l < 26) (hf : h.1 106 l = nI k) (ht : h.1 107 l = nI (k + C.length)) (hk : k + C.length ≤ 4000) (hψ : ∀ c, c < 60 → h.1 123 c = ψ c) (ca : cAt h k C) (V : VE N ψ 0 C v 0) : okI (F_X12_worth N (nI l) h) (fun x h' => x = v ∧ VF h h') := by
  unfold F_X12_worth
  rw [show (0 : Int32) = nI 0 from rfl, opens_x (by omega), bV_s, if_pos (nI_in0 hl (by omega)), nI_clamp (by omega)]
  have vf : VF h (hOp 0 h) := VF_Op VF_0
  rw [vf.1 106 (by omega), hf, ib_e]
  obtain ⟨h', e1, e2, e3, q, f⟩ := V (hOp 0 h) l (k + C.length) k N ⟨hl, by rw [vf.1 107 (by omega)]; exact ht, hk, fun c hc => by rw [vf.1 123 (by omega)]; exact hψ c hc⟩ (cAt_v vf ca) (Nat.le_refl _) (by omega) (Or.inl rfl) ⟨fun _ => by unfold hOp; simp [hs_1], fun _ => by unfold hOp; simp [hs_1], fun _ => by unfold hOp; simp [hs_1], fun _ => by unfold hOp; simp [hs_1]⟩
  obtain ⟨g, hg⟩ : ∃ g, N - C.length = g + 1 := ⟨N - C.length - 1, by omega⟩
  rw [e1, hg, F_X12_worth_b14, if_pos (nI_in0 hl (by omega)), nI_clamp (by omega), f.1 107 (by omega), vf.1 107 (by omega), ht, if_pos (nI_le (Nat.le_refl _) (by omega))]
  unfold F_X12_worth_b342
  rw [show (0 : Int32) = nI 0 from rfl, holds_x (by omega), bV_s, if_pos (by decide)]
  have e14 : (hHo 0 h').1 114 0 = v := by
    have := q.2.2.2.2
    rw [if_pos rfl] at this
    unfold hHo
    simp [hs_1, this]
  exact okI_s ⟨e14, VF_t vf (VF_t f VF_Ho)⟩
