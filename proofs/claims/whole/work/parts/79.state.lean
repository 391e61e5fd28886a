/-! the run of the cars, by its state: 0 given, 1 times in, 2 times out, 3 stops, 4 and 5 parts passed, 6 floors, 7 headings, 8 standing -/
abbrev TSt : Type := Nat → Nat → Int32
def su (S : TSt) (k j : Nat) (x : Int32) : TSt := fun a b => if a = k then (if b = j then x else S a b) else S a b
section
variable {S : TSt} {k j : Nat} {x : Int32} {a b : Nat}
theorem su_e : su S k j x a b = if a = k then (if b = j then x else S a b) else S a b := rfl
theorem su_o (e : a ≠ k) : su S k j x a = S a := by
  funext b
  rw [su_e, if_neg e]
theorem su_s : su S k j x k = upd (S k) j x := by
  funext b
  rw [su_e, if_pos rfl]
  rfl
theorem su_id : su S k j (S k j) = S := by
  funext a b
  rw [su_e]
  by_cases e : a = k
  · subst e
    rw [if_pos rfl]
    by_cases e2 : b = j
    · subst e2; rw [if_pos rfl]
    · rw [if_neg e2]
  · rw [if_neg e]
end
def fl (S : TSt) (c : Nat) : Nat := (S 6 c).toNatClampNeg
def ins (S : TSt) (c i : Nat) : Bool := decide (S 0 i = nI c ∧ 0 ≤ S 1 i ∧ S 2 i < 0)
def wtg (S : TSt) (c i : Nat) : Bool := decide (S 0 i = nI c ∧ S 1 i < 0)
def lod (n : Nat) (S : TSt) (c : Nat) : Nat := fb_ct (ins S c) n
/-! q: 0 floors, 1 cars, 2 room, 3 doors, 4 park, 5 persons, 6 holds, 7 fire and 1; u: 0 comes, 1 from, 2 to, 3 hold's time, 4 its car, 5 its ticks -/
def gol (q : Nat → Nat) (u : Nat → Nat → Nat) (S : TSt) (c f : Nat) : Bool := exn (q 5) (fun i => (ins S c i && decide (u 2 i = f)) || (decide (lod (q 5) S c < q 2) && (wtg S c i && decide (u 1 i = f))))
def mst (q : Nat → Nat) (u : Nat → Nat → Nat) (S : TSt) (c : Nat) : Bool := exn (q 5) (fun i => ins S c i && decide (u 2 i = fl S c)) || (exn (q 5) (fun i => wtg S c i && decide (u 1 i = fl S c)) && decide (lod (q 5) S c < q 2))
def sLet (n : Nat) (W : Nat → Bool) (t : Nat) (S : TSt) : TSt := fun a b => if a = 2 ∧ b < n ∧ W b = true then nI t else S a b
def sBr (q : Nat → Nat) (u : Nat → Nat → Nat) (c k : Nat) (S : TSt) : Bool := decide (lod (q 5) S c < q 2) && (wtg S c k && decide (u 1 k = fl S c))
def sBrd (q : Nat → Nat) (u : Nat → Nat → Nat) (c t : Nat) : Nat → TSt → TSt
  | 0, S => S
  | k + 1, S => if sBr q u c k (sBrd q u c t k S) = true then su (sBrd q u c t k S) 1 k (nI t) else sBrd q u c t k S
def sOut (q : Nat → Nat) (u : Nat → Nat → Nat) (c t : Nat) (S : TSt) : TSt := sLet (q 5) (fun i => ins S c i && decide (u 2 i = fl S c)) t S
def sDoor (d c : Nat) (S : TSt) : TSt := su (su S 8 c (nI d)) 3 c (S 3 c + 1)
def sStop (q : Nat → Nat) (u : Nat → Nat → Nat) (c t : Nat) (S : TSt) : TSt := sDoor (q 3) c (sBrd q u c t (q 5) (sOut q u c t S))
def sMv (S : TSt) (c y : Nat) : TSt := su (su S (4 + c) (min y (fl S c)) (S (4 + c) (min y (fl S c)) + 1)) 6 c (nI y)
/-- a set's number -/
def mkN (P : Nat → Bool) : Nat → Nat
  | 0 => 0
  | k + 1 => 2 ^ k * (if P k = true then 1 else 0) + mkN P k
def nrU (F g : Nat) : Nat → Nat → Nat → Nat
  | 0, _, _ => 99
  | m + 1, k, f => if f < F then (if g.testBit f = true then k else nrU F g m (k + 1) (f + 1)) else 99
def nrD (g : Nat) : Nat → Nat → Nat
  | _, 0 => 99
  | k, f + 1 => if g.testBit f = true then k else nrD g (k + 1) f
def wyN (F g y : Nat) (old : Int32) : Int32 := if (old = 1 ∧ nrU F g 7 1 (y + 1) < 99) ∨ (old = -1 ∧ nrD g 1 y < 99) then old else if nrU F g 7 1 (y + 1) ≤ nrD g 1 y then 1 else -1
def sPark (q : Nat → Nat) (c : Nat) (S : TSt) : TSt := if fl S c = q 4 then S else sMv S c (if fl S c < q 4 then fl S c + 1 else fl S c - 1)
def sHead (w : Int32) (c : Nat) (S : TSt) : TSt := sMv (su S 7 c w) c (if w = 1 then fl S c + 1 else fl S c - 1)
def sGo (q : Nat → Nat) (u : Nat → Nat → Nat) (c : Nat) (S : TSt) : TSt := if mkN (gol q u S c) (q 0) = 0 then sPark q c (su S 7 c 0) else sHead (wyN (q 0) (mkN (gol q u S c) (q 0)) (fl S c) (S 7 c)) c S
def brn (f t : Nat) : Bool := decide (0 < f ∧ f ≤ t + 1)
def sFlee (q : Nat → Nat) (c t : Nat) (S : TSt) : TSt := if fl S c = 0 then sLet (q 5) (ins S c) t S else sMv S c (fl S c - 1)
def sAct (q : Nat → Nat) (u : Nat → Nat → Nat) (t c : Nat) (S : TSt) : TSt := if S 8 c ≤ 0 then (if brn (q 7) t = true then sFlee q c t S else if mst q u S c = true then sStop q u c t S else sGo q u c S) else su S 8 c (S 8 c - 1)
def sActs (q : Nat → Nat) (u : Nat → Nat → Nat) (t : Nat) : Nat → TSt → TSt
  | 0, S => S
  | k + 1, S => sAct q u t k (sActs q u t k S)
def sHold (u : Nat → Nat → Nat) (t : Nat) : Nat → TSt → TSt
  | 0, S => S
  | k + 1, S => if u 3 k = t ∧ 0 < sHold u t k S 8 (u 4 k) then su (sHold u t k S) 8 (u 4 k) (sHold u t k S 8 (u 4 k) + nI (u 5 k)) else sHold u t k S
def twd (a y : Nat) (w : Int32) : Bool := decide (w = 0 ∨ (w = 1 ∧ y ≤ a) ∨ (w = -1 ∧ a ≤ y))
def fcs (q : Nat → Nat) (u : Nat → Nat → Nat) (S : TSt) (c i t : Nat) : Nat → Int32 := fun a => if a = 0 then nI (if u 1 i < fl S c then fl S c - u 1 i else u 1 i - fl S c) else if a = 1 then nI (lod (q 5) S c) else if a = 2 then nI (fb_ct (gol q u S c) (q 0)) else if a = 3 then (if twd (u 1 i) (fl S c) (S 7 c) = true then 1 else 0) else if a = 4 then (if mkN (gol q u S c) (q 0) = 0 then 1 else 0) else if a = 5 then nI (fl S c) else if a = 6 then nI (u 1 i) else if a = 7 then nI (u 2 i) else if a = 8 then nI c else if a = 9 then nI t else 0
/-- v: what the rule is worth by its facts; way: -1, or the bits of the cars -/
def gcar (q : Nat → Nat) (u : Nat → Nat → Nat) (v : (Nat → Int32) → Int32) (way : Int32) (t k : Nat) (S : TSt) : Int32 := if way = -1 then (if q 1 = 2 then (if v (fcs q u S 1 k t) < v (fcs q u S 0 k t) then 1 else 0) else 0) else (way >>> (nI k &&& 31)) &&& 1
def sGiv (q : Nat → Nat) (u : Nat → Nat → Nat) (v : (Nat → Int32) → Int32) (way : Int32) (t : Nat) : Nat → TSt → TSt
  | 0, S => S
  | k + 1, S => if u 0 k = t then su (sGiv q u v way t k S) 0 k (gcar q u v way t k (sGiv q u v way t k S)) else sGiv q u v way t k S
def sGive (q : Nat → Nat) (u : Nat → Nat → Nat) (v : (Nat → Int32) → Int32) (way : Int32) (t : Nat) (S : TSt) : TSt := if brn (q 7) t = true then S else sGiv q u v way t (q 5) S
def sStep (q : Nat → Nat) (u : Nat → Nat → Nat) (v : (Nat → Int32) → Int32) (way : Int32) (t : Nat) (S : TSt) : TSt := sActs q u t (q 1) (sHold u t (q 6) (sGive q u v way t S))
def sOvr (q : Nat → Nat) (t : Nat) (S : TSt) : Bool := !(exn (q 5) (fun i => decide (S 2 i < 0))) || (brn (q 7) t && !(exn (q 1) (fun k => !(decide (lod (q 5) S k = 0) && decide (fl S k = 0)))))
def sRun (q : Nat → Nat) (u : Nat → Nat → Nat) (v : (Nat → Int32) → Int32) (way : Int32) : Nat → Nat → TSt → TSt × Int32
  | 0, _, S => (S, -1)
  | k + 1, t, S => if sOvr q t (sStep q u v way t S) = true then (sStep q u v way t S, nI t) else sRun q u v way k (t + 1) (sStep q u v way t S)
def sAll (q : Nat → Nat) (u : Nat → Nat → Nat) (v : (Nat → Int32) → Int32) (way : Int32) (S : TSt) : TSt × Int32 := if q 5 = 0 then (S, 0) else sRun q u v way 900 0 S
def Ini (S : TSt) : Prop := (∀ i, i < 24 → S 0 i = -1 ∧ S 1 i = -1 ∧ S 2 i = -1) ∧ ∀ k, k < 2 → S 3 k = 0 ∧ S 6 k = 0 ∧ S 7 k = 0 ∧ S 8 k = 0 ∧ ∀ j, j < 5 → S (4 + k) j = 0
/-- what holds of every state of a run -/
def Sok (q : Nat → Nat) (S : TSt) : Prop := (∀ k, k < 2 → fl S k < q 0 ∧ S 6 k = nI (fl S k) ∧ (S 7 k = 0 ∨ S 7 k = 1 ∨ S 7 k = -1) ∧ lod (q 5) S k ≤ q 2 ∧ (q 1 ≤ k → S 8 k = 0)) ∧ ∀ i, i < q 5 → (S 0 i = -1 → S 1 i = -1) ∧ (S 1 i = -1 ∨ 0 ≤ S 1 i) ∧ (S 1 i < 0 → S 2 i < 0) ∧ (S 2 i = -1 ∨ 0 ≤ S 2 i)
/-- bounds of the plan -/
def Qok (q : Nat → Nat) (u : Nat → Nat → Nat) : Prop := 2 ≤ q 0 ∧ q 0 ≤ 6 ∧ 1 ≤ q 1 ∧ q 1 ≤ 2 ∧ 1 ≤ q 2 ∧ q 2 ≤ 8 ∧ q 3 ≤ 9 ∧ q 4 < q 0 ∧ q 5 ≤ 24 ∧ q 6 ≤ 8 ∧ q 7 ≤ 900 ∧ (∀ i, i < q 5 → u 0 i ≤ 300 ∧ u 1 i < q 0 ∧ u 2 i < q 0 ∧ u 1 i ≠ u 2 i) ∧ ∀ i, i < q 6 → u 3 i < 900 ∧ u 4 i < 2 ∧ 1 ≤ u 5 i ∧ u 5 i ≤ 60
section
variable {q : Nat → Nat} {u : Nat → Nat → Nat} {v : (Nat → Int32) → Int32} {way : Int32} {S : TSt}
theorem c2_eq {a b : Nat} (ha : a < 2) (hb : b < 2) : nI a = nI b ↔ a = b := nI_eq (by omega) (by omega)
theorem m1_lt0 : (-1 : Int32) < 0 := by decide
theorem nlt0 {t : Nat} (h : t < 2147483648) : ¬ nI t < 0 := nI_pos h
/-! who is let out -/
section
variable {n t : Nat} {W : Nat → Bool}
theorem let_o {a : Nat} (e : a ≠ 2) : sLet n W t S a = S a := by
  funext b
  unfold sLet
  rw [if_neg (fun z => e z.1)]
theorem let_2 {i : Nat} (hi : i < n) : sLet n W t S 2 i = if W i = true then nI t else S 2 i := by
  unfold sLet
  by_cases w : W i = true
  · rw [if_pos ⟨rfl, hi, w⟩, if_pos w]
  · rw [if_neg (fun z => w z.2.2), if_neg w]
theorem let_ins (ht : t < 2147483648) {c i : Nat} (hi : i < n) : ins (sLet n W t S) c i = (ins S c i && !W i) := by
  unfold ins
  rw [let_o (by decide), let_o (by decide), let_2 hi]
  cases hw : W i
  · rw [if_neg (by decide)]; simp
  · rw [if_pos rfl]
    simp
    intro _ _
    exact Int32.not_lt.mp (nlt0 ht)
theorem let_wtg {c i : Nat} : wtg (sLet n W t S) c i = wtg S c i := by
  unfold wtg
  rw [let_o (by decide), let_o (by decide)]
theorem let_fl {c : Nat} : fl (sLet n W t S) c = fl S c := by
  unfold fl
  rw [let_o (by decide)]
theorem let_lod (ht : t < 2147483648) {c : Nat} : lod n (sLet n W t S) c ≤ lod n S c := fb_ct_sub (fun k hk z => by
  rw [let_ins ht hk] at z
  simp at z
  exact z.1)
theorem let_ok (ht : t < 2147483648) {c : Nat} (K : Sok q S) (w : ∀ i, i < q 5 → W i = true → ins S c i = true) : Sok q (sLet (q 5) W t S) := by
  refine ⟨fun k hk => ?_, fun i hi => ?_⟩
  · obtain ⟨a1, a2, a3, a4, a5⟩ := K.1 k hk
    rw [let_fl, let_o (by decide), let_o (by decide), let_o (by decide)]
    exact ⟨a1, a2, a3, Nat.le_trans (let_lod ht) a4, a5⟩
  · obtain ⟨a1, a2, a3, a4⟩ := K.2 i hi
    rw [let_o (by decide), let_o (by decide), let_2 hi]
    refine ⟨a1, a2, fun z => ?_, ?_⟩
    · by_cases y : W i = true
      · have := of_decide_eq_true (w i hi y)
        exact absurd z (Int32.not_lt.mpr this.2.1)
      · rw [if_neg y]; exact a3 z
    · by_cases y : W i = true
      · rw [if_pos y]; exact Or.inr (nI_pos' ht)
      · rw [if_neg y]; exact a4
end
/-! who comes in -/
theorem brd_ins {c k t : Nat} (hc : c < 2) (ht : t < 2147483648) (w : wtg S c k = true) (o2 : S 2 k < 0) {c' i : Nat} (hc' : c' < 2) : ins (su S 1 k (nI t)) c' i = if i = k then decide (c' = c) else ins S c' i := by
  have w1 := of_decide_eq_true w
  unfold ins
  rw [su_o (by decide), su_s, su_o (by decide)]
  by_cases e : i = k
  · subst e
    rw [if_pos rfl, pk_us, w1.1]
    apply decide_eq_decide.mpr
    rw [c2_eq hc hc']
    constructor
    · intro z; exact z.1.symm
    · intro z; exact ⟨z.symm, nI_pos' ht, o2⟩
  · rw [if_neg e, pk_un e]
theorem brd_wtg {c k t : Nat} (hc : c < 2) (ht : t < 2147483648) (w : wtg S c k = true) {c' i : Nat} (hc' : c' < 2) : wtg (su S 1 k (nI t)) c' i = (wtg S c' i && !(decide (c' = c) && decide (i = k))) := by
  have w1 := of_decide_eq_true w
  unfold wtg
  rw [su_o (by decide), su_s]
  by_cases e : i = k
  · subst e
    rw [pk_us, w1.1]
    have nl := nlt0 ht
    by_cases e2 : c' = c
    · simp [e2]; exact Int32.not_lt.mp nl
    · have : ¬ nI c = nI c' := fun z => e2 ((c2_eq hc hc').mp z).symm
      simp [e2, this]
  · rw [pk_un e]
    simp [e]
theorem brd_lod {c k t : Nat} (hc : c < 2) (hk : k < q 5) (ht : t < 2147483648) (w : wtg S c k = true) (o2 : S 2 k < 0) {c' : Nat} (hc' : c' < 2) : lod (q 5) (su S 1 k (nI t)) c' = lod (q 5) S c' + if c' = c then 1 else 0 := by
  unfold lod
  have w1 := of_decide_eq_true w
  have i0 : ins S c' k = false := by
    unfold ins
    apply decide_eq_false
    intro z
    exact absurd w1.2 (Int32.not_lt.mpr z.2.1)
  rw [fb_ct_cong (q := fun i => if i = k then decide (c' = c) else ins S c' i) (fun i hi => brd_ins hc ht w o2 hc')]
  have := fb_ct_upd (ins S c') (decide (c' = c)) hk
  rw [i0] at this
  by_cases e : c' = c
  · simp [e] at this ⊢
    exact this
  · simp [e] at this ⊢
    exact this
theorem brd_fl {c k : Nat} {x : Int32} : fl (su S 1 k x) c = fl S c := by
  unfold fl
  rw [su_o (by decide)]
theorem brd_ok1 {c k t : Nat} (hc : c < 2) (hk : k < q 5) (ht : t < 2147483648) (K : Sok q S) (b : sBr q u c k S = true) : Sok q (su S 1 k (nI t)) := by
  unfold sBr at b
  simp at b
  obtain ⟨b1, b2, b3⟩ := b
  have w1 := of_decide_eq_true b2
  have o2 := (K.2 k hk).2.2.1 w1.2
  refine ⟨fun k' hk' => ?_, fun i hi => ?_⟩
  · obtain ⟨a1, a2, a3, a4, a5⟩ := K.1 k' hk'
    rw [brd_fl, su_o (by decide), su_o (by decide), su_o (by decide), brd_lod hc hk ht b2 o2 hk']
    refine ⟨a1, a2, a3, ?_, a5⟩
    by_cases e : k' = c
    · subst e; simp; omega
    · simp [e]; exact a4
  · obtain ⟨a1, a2, a3, a4⟩ := K.2 i hi
    rw [su_o (by decide), su_s, su_o (by decide)]
    by_cases e : i = k
    · subst e
      rw [pk_us]
      refine ⟨fun z => ?_, Or.inr (nI_pos' ht), fun z => absurd z (nlt0 ht), a4⟩
      rw [w1.1] at z
      exact absurd z (n_eq_m1 (by omega))
    · rw [pk_un e]
      exact ⟨a1, a2, a3, a4⟩
theorem brd_ok {c t : Nat} (hc : c < 2) (ht : t < 2147483648) (K : Sok q S) : ∀ k, k ≤ q 5 → Sok q (sBrd q u c t k S) := by
  intro k
  induction k with
  | zero => intro _; exact K
  | succ k ih =>
    intro hk
    have := ih (by omega)
    unfold sBrd
    by_cases b : sBr q u c k (sBrd q u c t k S) = true
    · rw [if_pos b]; exact brd_ok1 hc (by omega) ht this b
    · rw [if_neg b]; exact this
theorem brd_full {c t : Nat} : ∀ k j, k ≤ j → ¬ lod (q 5) (sBrd q u c t k S) c < q 2 → sBrd q u c t j S = sBrd q u c t k S := by
  intro k j
  induction j with
  | zero => intro h _; rw [show k = 0 by omega]
  | succ j ih =>
    intro h f
    by_cases e : k = j + 1
    · rw [e]
    · have := ih (by omega) f
      have b : ¬ sBr q u c j (sBrd q u c t j S) = true := by
        rw [this]
        unfold sBr
        simp
        intro z
        exact absurd z f
      rw [sBrd, if_neg b, this]
theorem brd_o {c t a : Nat} (e : a ≠ 1) : ∀ k, sBrd q u c t k S a = S a := by
  intro k
  induction k with
  | zero => rfl
  | succ k ih =>
    unfold sBrd
    by_cases b : sBr q u c k (sBrd q u c t k S) = true
    · rw [if_pos b, su_o e, ih]
    · rw [if_neg b, ih]
/-! the small changes -/
theorem ins_o {a k : Nat} {x : Int32} (h : 3 ≤ a) {c i : Nat} : ins (su S a k x) c i = ins S c i := by
  unfold ins
  rw [su_o (by omega), su_o (by omega), su_o (by omega)]
theorem wtg_o {a k : Nat} {x : Int32} (h : 3 ≤ a) {c i : Nat} : wtg (su S a k x) c i = wtg S c i := by
  unfold wtg
  rw [su_o (by omega), su_o (by omega)]
theorem lod_o {n a k : Nat} {x : Int32} (h : 3 ≤ a) {c : Nat} : lod n (su S a k x) c = lod n S c := fb_ct_cong (fun _ _ => ins_o h)
theorem fl_o {a k : Nat} {x : Int32} (h : a ≠ 6) {c : Nat} : fl (su S a k x) c = fl S c := by
  unfold fl
  rw [su_o (by omega)]
theorem ok_o {a k : Nat} {x : Int32} (h : 3 ≤ a) (h6 : a ≠ 6) (h7 : a ≠ 7) (h8 : a ≠ 8) (K : Sok q S) : Sok q (su S a k x) := by
  refine ⟨fun j hj => ?_, fun i hi => ?_⟩
  · rw [fl_o h6, su_o (by omega), su_o (by omega), su_o (by omega), lod_o h]; exact K.1 j hj
  · rw [su_o (by omega), su_o (by omega), su_o (by omega)]; exact K.2 i hi
theorem ok_7 {k : Nat} {x : Int32} (hx : x = 0 ∨ x = 1 ∨ x = -1) (K : Sok q S) : Sok q (su S 7 k x) := by
  refine ⟨fun j hj => ?_, fun i hi => ?_⟩
  · rw [fl_o (by decide), su_o (by decide), su_s, su_o (by decide), lod_o (by decide)]
    obtain ⟨a1, a2, a3, a4, a5⟩ := K.1 j hj
    refine ⟨a1, a2, ?_, a4, a5⟩
    by_cases e : j = k
    · subst e; rw [pk_us]; exact hx
    · rw [pk_un e]; exact a3
  · rw [su_o (by decide), su_o (by decide), su_o (by decide)]; exact K.2 i hi
theorem ok_8 {k : Nat} {x : Int32} (hx : q 1 ≤ k → x = 0) (K : Sok q S) : Sok q (su S 8 k x) := by
  refine ⟨fun j hj => ?_, fun i hi => ?_⟩
  · rw [fl_o (by decide), su_o (by decide), su_s, su_o (by decide), lod_o (by decide)]
    obtain ⟨a1, a2, a3, a4, a5⟩ := K.1 j hj
    refine ⟨a1, a2, a3, a4, ?_⟩
    by_cases e : j = k
    · subst e; rw [pk_us]; exact hx
    · rw [pk_un e]; exact a5
  · rw [su_o (by decide), su_o (by decide), su_o (by decide)]; exact K.2 i hi
theorem ok_6 {k y : Nat} (hy : y < q 0) (h6 : q 0 ≤ 6) (K : Sok q S) : Sok q (su S 6 k (nI y)) := by
  refine ⟨fun j hj => ?_, fun i hi => ?_⟩
  · obtain ⟨a1, a2, a3, a4, a5⟩ := K.1 j hj
    unfold fl
    rw [su_s, su_o (by decide), su_o (by decide), lod_o (by decide)]
    by_cases e : j = k
    · subst e; rw [pk_us, nI_clamp (by omega)]; exact ⟨hy, rfl, a3, a4, a5⟩
    · rw [pk_un e]; exact ⟨a1, a2, a3, a4, a5⟩
  · rw [su_o (by decide), su_o (by decide), su_o (by decide)]; exact K.2 i hi
theorem ok_mv {c y : Nat} (hc : c < 2) (hy : y < q 0) (h6 : q 0 ≤ 6) (K : Sok q S) : Sok q (sMv S c y) := ok_6 hy h6 (ok_o (by omega) (by omega) (by omega) (by omega) K)
theorem mkN_lt {P : Nat → Bool} : ∀ k, mkN P k < 2 ^ k := by
  intro k
  induction k with
  | zero => exact Nat.zero_lt_one
  | succ k ih =>
    unfold mkN
    rw [Nat.pow_succ]
    by_cases p : P k = true
    · rw [if_pos p]; omega
    · rw [if_neg p]; omega
theorem mkN_bit {P : Nat → Bool} {i : Nat} : ∀ k, (mkN P k).testBit i = (decide (i < k) && P i) := by
  intro k
  induction k with
  | zero => simp [mkN]
  | succ k ih =>
    unfold mkN
    rw [Nat.testBit_two_pow_mul_add _ (mkN_lt k)]
    by_cases h : i < k
    · rw [if_pos h, ih]
      simp [h, Nat.lt_succ_of_lt h]
    · rw [if_neg h]
      by_cases e : i = k
      · subst e
        cases hp : P i <;> simp
      · have : ¬ i < k + 1 := by omega
        simp only [this, decide_false, Bool.false_and]
        have e2 : i - k = (i - k - 1) + 1 := by omega
        rw [e2]
        cases hp : P k
        · simp
        · rw [if_pos rfl, Nat.testBit_succ]; simp
theorem mkN_Mk {P : Nat → Bool} {k : Nat} : Mk (nI (mkN P k)) k P := fun i hi => by rw [b_nI _ hi, mkN_bit]
theorem mkN_0 {P : Nat → Bool} {k : Nat} (hk : k ≤ 31) : mkN P k = 0 ↔ ∀ i, i < k → P i = false := by
  rw [← Mk_0i (by omega) mkN_Mk]
  have := mkN_lt (P := P) k
  have p2 : 2 ^ k ≤ 2 ^ 31 := Nat.pow_le_pow_right (by decide) hk
  exact (nI_eq (b := 0) (by omega) (by decide)).symm
end
