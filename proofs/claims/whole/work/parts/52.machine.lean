/-! the machine on both sides -/
def tv (fa : Nat → Int32) (E : List Nat) (bits : Int32) : Int32 := match rpn (lfC bits fa) E [] with
  | some (v :: _) => v
  | _ => 0
/-- the lines of the circuit, by what they answer to the facts -/
def LnT (T : Nat → Int32 → Bool) (nv : Nat) (h : PH) : Prop := ∃ (tl : Nat → Bool) (EL CL : Nat → List Nat), h.1 15 1 = nI nv ∧ nv ≤ 6 ∧ (∀ l, l < 6 → (tl (19 + l) = true ↔ l < nv)) ∧ (∀ l, l < 25 → if tl l then Same false (EL l) (CL l) ∧ lnC 15 l (EL l) h ∧ h.1 105 l = 1 ∧ ∃ k, k + (CL l).length ≤ 1000 ∧ h.1 106 l = nI k ∧ h.1 107 l = nI (k + (CL l).length) ∧ cAt h k (CL l) else lnC 15 l [] h ∧ h.1 105 l = 0) ∧ ∀ l bits, T l bits = (tl l && decide (tv (h.1 16) (EL l) bits ≠ 0))
theorem LnT_I {h : PH} (L : LnI h) : ∃ T nv, LnT T nv h := by
  obtain ⟨tl, EL, CL, nv, a1, a2, a3, a4⟩ := L
  exact ⟨_, nv, tl, EL, CL, a1, a2, a3, a4, fun _ _ => rfl⟩
def LnP (a b : Nat) : Prop := (a = 15 ∧ b = 1) ∨ (16 ≤ a ∧ a ≤ 19) ∨ (105 ≤ a ∧ a ≤ 107 ∧ b < 25) ∨ (a = 111 ∧ b < 1000)
theorem lnC_e {o l : Nat} {E : List Nat} {h h' : PH} (e2 : h'.1 (o + 2) = h.1 (o + 2)) (e3 : h'.1 (o + 3) = h.1 (o + 3)) (e4 : h'.1 (o + 4) = h.1 (o + 4)) (L : lnC o l E h) : lnC o l E h' := by
  obtain ⟨b, b1, b2, b3, b4⟩ := L
  exact ⟨b, b1, by rw [e3]; exact b2, by rw [e4]; exact b3, by rw [e2]; exact b4⟩
theorem LnT_q {T : Nat → Int32 → Bool} {nv : Nat} {h h' : PH} (L : LnT T nv h) (e : ∀ a b, LnP a b → h'.1 a b = h.1 a b) : LnT T nv h' := by
  obtain ⟨tl, EL, CL, a1, a2, a3, a4, a5⟩ := L
  have c : ∀ k, 16 ≤ k → k ≤ 19 → h'.1 k = h.1 k := fun k q1 q2 => funext (fun b => e k b (Or.inr (Or.inl ⟨q1, q2⟩)))
  refine ⟨tl, EL, CL, by rw [e 15 1 (Or.inl ⟨rfl, rfl⟩)]; exact a1, a2, a3, fun l hl => ?_, by rw [c 16 (by omega) (by omega)]; exact a5⟩
  have b := a4 l hl
  by_cases g : tl l = true
  · rw [if_pos g] at b ⊢
    obtain ⟨b1, b2, b3, k, b4, b5, b6, b7⟩ := b
    refine ⟨b1, lnC_e (c 17 (by omega) (by omega)) (c 18 (by omega) (by omega)) (c 19 (by omega) (by omega)) b2, ?_, k, b4, ?_, ?_, fun t ht => ?_⟩
    · rw [e 105 l (Or.inr (Or.inr (Or.inl ⟨by omega, by omega, hl⟩)))]; exact b3
    · rw [e 106 l (Or.inr (Or.inr (Or.inl ⟨by omega, by omega, hl⟩)))]; exact b5
    · rw [e 107 l (Or.inr (Or.inr (Or.inl ⟨by omega, by omega, hl⟩)))]; exact b6
    · rw [e 111 (k + t) (Or.inr (Or.inr (Or.inr ⟨rfl, by omega⟩)))]; exact b7 t ht
  · rw [if_neg g] at b ⊢
    exact ⟨lnC_e (c 17 (by omega) (by omega)) (c 18 (by omega) (by omega)) (c 19 (by omega) (by omega)) b.1, by rw [e 105 l (Or.inr (Or.inr (Or.inl ⟨by omega, by omega, hl⟩)))]; exact b.2⟩
theorem agr_ex {φ : Nat → Nat → Int32} (h : ∀ a, φ 2 a = nI a) : ∃ ψ, Agr false φ ψ := by
  refine ⟨fun c => if c < 9 then φ 3 (c - 1) else if c = 9 then φ 3 20 else if c = 10 then φ 3 21 else if c < 50 then φ 3 (8 + (c - 40)) else φ 3 (14 + (c - 50)), h, ?_⟩
  rw [if_neg (by decide)]
  refine ⟨fun a ha => ?_, fun a ha => ?_, fun a ha => ?_, by simp, by simp⟩
  · dsimp only; rw [if_pos (by omega), show 1 + a - 1 = a by omega]
  · dsimp only; rw [if_neg (by omega), if_neg (by omega), if_neg (by omega), if_pos (by omega), show 40 + a - 40 = a by omega]
  · dsimp only; rw [if_neg (by omega), if_neg (by omega), if_neg (by omega), if_neg (by omega), show 50 + a - 50 = a by omega]
theorem val_T {N : Nat} {T : Nat → Int32 → Bool} {nv l : Nat} {bits : Int32} {h : PH} (hN : 5000 ≤ N) (L : LnT T nv h) (hl : l < 25) : okI (F_X2_value N 15 (nI l) bits h) (fun v h' => (v = 0 ↔ T l bits = false) ∧ fr [20] h h') := by
  obtain ⟨tl, EL, CL, a1, a2, a3, a4, a5⟩ := L
  have b := a4 l hl
  by_cases g : tl l = true
  · rw [if_pos g] at b
    obtain ⟨ψ, A⟩ := agr_ex (φ := lfC bits (h.1 16)) (fun _ => rfl)
    obtain ⟨v, q, -⟩ := b.1.2 N (lfC bits (h.1 16)) ψ (by omega) A
    refine okI_m (value_x (o := 15) (by omega) hl b.2.1 b.1.1 q) (fun x k z => ⟨?_, z.2⟩)
    rw [z.1, a5, g]
    have : tv (h.1 16) (EL l) bits = v := by unfold tv; rw [q]
    rw [this]
    simp
  · rw [if_neg g] at b
    refine okI_m (value_x (o := 15) (st' := []) (by omega) hl b.1 (by simp) rfl) (fun x k z => ⟨?_, z.2⟩)
    rw [z.1, a5]
    simp [g]
theorem iso_T {N : Nat} {T : Nat → Int32 → Bool} {nv l : Nat} {bits : Int32} {h : PH} (hN : 5000 ≤ N) (L : LnT T nv h) (hl : l < 25) (A : Agr false (lfC bits (h.1 16)) (h.1 123)) : okI (F_X12_isSo N (nI l) h) (fun v h' => v = (if T l bits = true then 1 else 0) ∧ VF h h') := by
  obtain ⟨tl, EL, CL, a1, a2, a3, a4, a5⟩ := L
  have b := a4 l hl
  unfold F_X12_isSo F_X12_isSo_b21
  rw [if_pos (nI_in0 (by omega) (by omega)), nI_clamp (by omega)]
  by_cases g : tl l = true
  · rw [if_pos g] at b
    obtain ⟨b1, b2, b3, k, b4, b5, b6, b7⟩ := b
    obtain ⟨v, q, V⟩ := b1.2 N (lfC bits (h.1 16)) (h.1 123) (by omega) A
    rw [if_neg (by rw [b3]; decide)]
    refine okI_bI (okI_m (worth_x hN (by omega) b5 b6 (by omega) (fun _ _ => rfl) b7 V) (fun x k z => ?_))
    obtain ⟨rfl, z⟩ := z
    have t : tv (h.1 16) (EL l) bits = x := by unfold tv; rw [q]
    rw [a5, g, t]
    by_cases y : x = 0
    · rw [if_pos y]; exact okI_s ⟨by simp [y], z⟩
    · rw [if_neg y]; exact okI_s ⟨by simp [y], z⟩
  · rw [if_neg g] at b
    rw [if_pos b.2]
    exact okI_s ⟨by rw [a5]; simp [g], VF_0⟩
/-! states: relays, floor, door; and the facts of a state with a button -/
def csN (s : Nat × Nat × Nat) : Nat := s.1 + 256 * s.2.1 + 2048 * s.2.2
def msN (s : Nat × Nat × Nat) : Nat := s.1 + 256 * s.2.1 + 1536 * s.2.2
def OkS (F : Nat) (s : Nat × Nat × Nat) : Prop := s.1 < 256 ∧ s.2.1 < F ∧ s.2.2 < 2
def bu : Nat → Int32
  | 0 => -1
  | j + 1 => nI j
def xct (f o j : Nat) : Nat := 2 ^ (6 + f) + 4096 * o + (if j = 0 then 0 else 2 ^ (j - 1) + 8192)
def fct (s : Nat × Nat × Nat) (j r : Nat) : Nat := 256 * xct s.2.1 s.2.2 j + r
theorem xct_lt : ∀ f, f < 6 → ∀ o, o < 2 → ∀ j, j < 7 → xct f o j < 16384 := by decide +kernel
theorem fct_lt {s : Nat × Nat × Nat} {j r : Nat} (h : OkS 6 s) (hj : j < 7) (hr : r < 256) : fct s j r < 4194304 := by
  have := xct_lt s.2.1 h.2.1 s.2.2 h.2.2 j hj
  unfold fct
  omega
theorem fx_a : ∀ f, f < 6 → ∀ o, o < 2 → ((1 : Int32) <<< (((14 : Int32) + nI f) &&& 31)) ||| (nI o <<< ((20 : Int32) &&& 31)) = nI (256 * xct f o 0) := by decide +kernel
theorem fx_b : ∀ f, f < 6 → ∀ o, o < 2 → ∀ j, j < 6 → (nI (256 * xct f o 0) ||| ((1 : Int32) <<< (((8 : Int32) + nI j) &&& 31))) ||| (2097152 : Int32) = nI (256 * xct f o (j + 1)) := by decide +kernel
theorem st_1 : ∀ a, a < 64 → ∀ b, b < 128 → (nI (128 * a + b) &&& (2048 : Int32) = 0 ↔ (128 * a + b) / 2048 % 2 = 0) := by decide +kernel
theorem st_2 : ∀ a, a < 64 → ∀ b, b < 128 → (nI (128 * a + b) &&& (4096 : Int32) = 0 ↔ (128 * a + b) / 4096 % 2 = 0) := by decide +kernel
theorem st_3 : ∀ a, a < 64 → ∀ b, b < 128 → nI (128 * a + b) &&& (-4097 : Int32) = nI ((128 * a + b) % 4096) := by decide +kernel
theorem st_4 : ∀ a, a < 32 → ∀ b, b < 128 → nI (128 * a + b) &&& (-2049 : Int32) = nI ((128 * a + b) % 2048) := by decide +kernel
theorem st1 {n : Nat} (h : n < 8192) : nI n &&& (2048 : Int32) = 0 ↔ n / 2048 % 2 = 0 := by
  have := st_1 (n / 128) (by omega) (n % 128) (by omega)
  rwa [show 128 * (n / 128) + n % 128 = n by omega] at this
theorem st2 {n : Nat} (h : n < 8192) : nI n &&& (4096 : Int32) = 0 ↔ n / 4096 % 2 = 0 := by
  have := st_2 (n / 128) (by omega) (n % 128) (by omega)
  rwa [show 128 * (n / 128) + n % 128 = n by omega] at this
theorem st3 {n : Nat} (h : n < 8192) : nI n &&& (-4097 : Int32) = nI (n % 4096) := by
  have := st_3 (n / 128) (by omega) (n % 128) (by omega)
  rwa [show 128 * (n / 128) + n % 128 = n by omega] at this
theorem st4 {n : Nat} (h : n < 4096) : nI n &&& (-2049 : Int32) = nI (n % 2048) := by
  have := st_4 (n / 128) (by omega) (n % 128) (by omega)
  rwa [show 128 * (n / 128) + n % 128 = n by omega] at this
theorem bt_n (n i : Nat) (hi : i < 32) : bt (nI n) i = n.testBit i := by
  unfold bt
  rw [show (nI n).toBitVec = BitVec.ofNat 32 n from rfl, BitVec.getLsbD_ofNat]
  simp [hi]
theorem bt_256 : ∀ i, i < 32 → bt (-256) i = decide (8 ≤ i) := by decide +kernel
theorem and_m256 (n : Nat) : nI n &&& (-256 : Int32) = nI (256 * (n / 256)) := by
  apply b_ext
  intro i hi
  rw [b_and, bt_n _ _ hi, bt_n _ _ hi, bt_256 i hi, show 256 * (n / 256) = (n >>> 8) <<< 8 by rw [Nat.shiftLeft_eq, Nat.shiftRight_eq_div_pow, Nat.mul_comm], Nat.testBit_shiftLeft, Nat.testBit_shiftRight]
  by_cases g : 8 ≤ i
  · rw [show 8 + (i - 8) = i by omega]
    simp [g]
  · simp [g]
theorem or_low {x r : Nat} (h : r < 256) : nI (256 * x) ||| nI r = nI (256 * x + r) := fa_or_sum (k := 8) x h
theorem one_sh : ∀ i, i < 31 → (1 : Int32) <<< (nI i &&& 31) = nI (2 ^ i) := by decide +kernel
theorem or_bit {a i : Nat} (h : a < 2 ^ i) (hi : i < 31) : nI a ||| ((1 : Int32) <<< (nI i &&& 31)) = nI (a + 2 ^ i) := by
  rw [one_sh i hi, Int32.or_comm]
  have := fa_or_sum (k := i) 1 h
  rw [Nat.mul_one] at this
  rw [this, Nat.add_comm]
section
variable {F : Nat} {s : Nat × Nat × Nat} {h : PH}
theorem cs_lt (o : OkS F s) (hF : F ≤ 6) : csN s < 4096 := by
  obtain ⟨o1, o2, o3⟩ := o
  unfold csN
  omega
theorem ms_lt (o : OkS F s) (hF : F ≤ 6) : msN s < 3072 := by
  obtain ⟨o1, o2, o3⟩ := o
  unfold msN
  omega
theorem floorC (o : OkS F s) (hF : F ≤ 6) : F_X11_floorOf (nI (csN s)) h = some (nI s.2.1, h) := by
  have := cs_lt o hF
  obtain ⟨o1, o2, o3⟩ := o
  unfold F_X11_floorOf
  rw [pk_shrN (by omega) _ 8 (by decide), pk_andN (by omega) 3 (by decide), show csN s / 2 ^ 8 % 2 ^ 3 = s.2.1 by unfold csN; omega]
theorem openC (o : OkS F s) (hF : F ≤ 6) : nI (csN s) &&& (2048 : Int32) = 0 ↔ s.2.2 = 0 := by
  rw [st1 (Nat.lt_of_lt_of_le (cs_lt o hF) (by omega))]
  obtain ⟨o1, o2, o3⟩ := o
  unfold csN
  omega
theorem doorC (o : OkS F s) (hF : F ≤ 6) : F_X11_doorOf (nI (csN s)) h = some (nI s.2.2, h) := by
  unfold F_X11_doorOf
  have q := o.2.2
  by_cases g : s.2.2 = 0
  · rw [if_pos ((openC o hF).mpr g), g]; rfl
  · rw [if_neg (fun z => g ((openC o hF).mp z)), show s.2.2 = 1 by omega]; rfl
theorem relC (o : OkS F s) (hF : F ≤ 6) : nI (csN s) &&& (255 : Int32) = nI s.1 := by
  rw [pk_andN (by have := cs_lt o hF; omega) 8 (by decide)]
  obtain ⟨o1, o2, o3⟩ := o
  rw [show csN s % 2 ^ 8 = s.1 by unfold csN; omega]
theorem relM (o : OkS F s) (hF : F ≤ 6) : nI (msN s) &&& (255 : Int32) = nI s.1 := by
  rw [pk_andN (by have := ms_lt o hF; omega) 8 (by decide)]
  obtain ⟨o1, o2, o3⟩ := o
  rw [show msN s % 2 ^ 8 = s.1 by unfold msN; omega]
theorem floorM (o : OkS F s) (hF : F ≤ 6) : F_X12_floorOf (nI (msN s)) h = some (nI s.2.1, h) := by
  have := ms_lt o hF
  unfold F_X12_floorOf
  rw [show (256 : Int32) = nI 256 from rfl, pk_div (by omega) (by omega) (by omega), show (6 : Int32) = nI 6 from rfl, pk_rem (by omega) (by omega) (by omega)]
  obtain ⟨o1, o2, o3⟩ := o
  rw [show msN s / 256 % 6 = s.2.1 by unfold msN; omega]
theorem openM (o : OkS F s) (hF : F ≤ 6) : F_X12_isOpen (nI (msN s)) h = some (nI s.2.2, h) := by
  have := ms_lt o hF
  unfold F_X12_isOpen
  obtain ⟨o1, o2, o3⟩ := o
  by_cases g : s.2.2 = 0
  · rw [if_pos ((n_lt_l 1536 (by omega) (by omega)).mpr (by unfold msN; omega)), g]; rfl
  · rw [if_neg (fun z => by have := (n_lt_l 1536 (by omega) (by omega)).mp z; unfold msN at this; omega), show s.2.2 = 1 by omega]; rfl
theorem factsC {j : Nat} (o : OkS F s) (hF : F ≤ 6) (hj : j ≤ F) : F_X4_factsOf (nI (csN s)) (bu j) h = some (nI (fct s j s.1), h) := by
  unfold F_X4_factsOf
  rw [floorC o hF, bI_s, doorC o hF, bI_s, relC o hF, ib_e, Int32.or_assoc, fx_a s.2.1 (by have := o.2.1; omega) s.2.2 o.2.2]
  cases j with
  | zero =>
    rw [if_pos (show bu 0 = -1 from rfl), Int32.or_comm, or_low o.1]
    rfl
  | succ j =>
    rw [if_neg (show ¬ bu (j + 1) = -1 from n_eq_m1 (by omega)), Int32.or_assoc, Int32.or_assoc, ← Int32.or_assoc (nI (256 * xct s.2.1 s.2.2 0)), show bu (j + 1) = nI j from rfl, fx_b s.2.1 (by have := o.2.1; omega) s.2.2 o.2.2 j (by omega), Int32.or_comm, or_low o.1]
    rfl
end
