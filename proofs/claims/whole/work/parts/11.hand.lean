theorem inb_nI {i n : Nat} (h : i < n) (hn : n < 2 ^ 31) : inb (nI i) n = true := decide_eq_true (nI_in h hn)
theorem PH_ext {h h' : PH} (h1 : ∀ a j, h.1 a j = h'.1 a j) (h2 : ∀ a j, h.2 a j = h'.2 a j) : h = h' := Prod.ext (funext fun a => funext fun j => h1 a j) (funext fun a => funext fun j => h2 a j)
theorem fill_loop {N k0 n0 : Nat} (hn : n0 < 2 ^ 31) (v : Int32) : ∀ (n i : Nat) (h : PH), i ≤ n0 → n0 < i + n → F_J7_fill_53178_b5 N k0 n0 n v (nI i) (nI n0) h = some (hsA h k0 (fun j => if i ≤ j ∧ j < n0 then v else h.1 k0 j)) := by
  intro n
  induction n with
  | zero =>
    intro i h h1 h2
    omega
  | succ n ih =>
    intro i h h1 h2
    unfold F_J7_fill_53178_b5
    by_cases hi : i = n0
    · subst hi
      rw [if_pos (nI_le (Nat.le_refl _) hn)]
      congr 1
      apply PH_ext
      · intro a j
        simp only [hsA]
        by_cases ha : a = k0
        · subst ha
          rw [if_pos rfl, if_neg (by omega)]
        · rw [if_neg ha]
      · intro a j
        rfl
    · have hlt : i < n0 := by omega
      rw [if_neg (nI_ge hlt hn), if_pos (inb_nI hlt hn)]
      simp only [hb, ib]
      rw [nI_1, nI_clamp (by omega), ih (i + 1) _ (by omega) (by omega)]
      congr 1
      apply PH_ext
      · intro a j
        simp only [hsA, hs]
        by_cases ha : a = k0
        · subst ha
          by_cases hj : j = i
          · subst hj
            simp [upd, hlt]
          · by_cases hj2 : i + 1 ≤ j ∧ j < n0
            · simp [hj2.1, hj2.2, upd, show i ≤ j by omega]
            · have hj3 : ¬ (i ≤ j ∧ j < n0) := by omega
              simp [hj2, hj3, upd, hj]
        · simp only [if_neg ha]
      · intro a j
        rfl
theorem M_fill (E : EV) {k n : Nat} {v : Int32} {h h1 : PH} (hk : AK 103 k 0 n 0) (hn : n < 2 ^ 31) (e : h1 = hfill h k n v) : MV E 103 yJ7_fill_53178 cJ7_fill_53178 4 none 0 0 [.ref k, .int v] h h1 := by
  refine M_J7_fill_53178 E (N := n + 1) (n0 := n) hk ?_
  unfold F_J7_fill_53178
  show F_J7_fill_53178_b5 (n + 1) k n (n + 1) v 0 (nI n) h = some h1
  have := fill_loop (N := n + 1) (k0 := k) hn v (n + 1) 0 h (Nat.zero_le _) (by omega)
  rw [nI_0] at this
  rw [this, e]
  unfold hfill
  congr 2
  funext j
  by_cases hj : j < n
  · rw [if_pos ⟨Nat.zero_le _, hj⟩, if_pos hj]
  · rw [if_neg (fun q => hj q.2), if_neg hj]
theorem dJ3_0 : decode cJ3_checkIndex_8e157 0 = .ok (.iload_n 0, 1) := by decide +kernel
theorem dJ3_1 : decode cJ3_checkIndex_8e157 1 = .ok (.ifCond .lt 8, 3) := by decide +kernel
theorem dJ3_4 : decode cJ3_checkIndex_8e157 4 = .ok (.iload_n 0, 1) := by decide +kernel
theorem dJ3_5 : decode cJ3_checkIndex_8e157 5 = .ok (.iload_n 1, 1) := by decide +kernel
theorem dJ3_6 : decode cJ3_checkIndex_8e157 6 = .ok (.if_icmp .lt 10, 3) := by decide +kernel
theorem dJ3_16 : decode cJ3_checkIndex_8e157 16 = .ok (.iload_n 0, 1) := by decide +kernel
theorem dJ3_17 : decode cJ3_checkIndex_8e157 17 = .ok (.ireturn, 1) := by decide +kernel
/-- Preconditions.checkIndex(i, n, f) with i in range, f null or the formatter -/
theorem M_J3_chk (E : EV) {a1 a2 : Int32} {w : Value} (hw : w = .null ∨ w = .ref 3000) {h : PH} (h1 : ¬ a1 < 0) (h2 : a1 < a2) : MI E 103 yJ3_checkIndex_8e157 cJ3_checkIndex_8e157 3 (some .int) 0 0 [.int a1, .int a2, w] h a1 h := by
  rcases hw with rfl | rfl
  all_goals
    refine MI.of 0 (by decide) rfl (fun X e1 C => ?_)
    subst e1
    replace C : CX X 103 cJ3_checkIndex_8e157 3 RJ3 (some .int) 0 0 := C
    refine V_iload_n (pc := 0) C dJ3_0 rfl ?_
    refine V_if_lt (pc := 1) C dJ3_1 (tgt := 9) (by decide) (fun q => absurd q h1) (fun _ => ?_)
    refine V_iload_n (pc := 4) C dJ3_4 rfl ?_
    refine V_iload_n (pc := 5) C dJ3_5 rfl ?_
    refine V_icmp_lt (pc := 6) C dJ3_6 (tgt := 16) (by decide) (fun _ => ?_) (fun q => absurd h2 q)
    refine V_iload_n (pc := 16) C dJ3_16 rfl ?_
    exact V_iret C dJ3_17
theorem dJ0c_0 : decode cJ0_checkIndex_df160 0 = .ok (.iload_n 0, 1) := by decide +kernel
theorem dJ0c_1 : decode cJ0_checkIndex_df160 1 = .ok (.iload_n 1, 1) := by decide +kernel
theorem dJ0c_2 : decode cJ0_checkIndex_df160 2 = .ok (.getstatic 1053, 3) := by decide +kernel
theorem dJ0c_5 : decode cJ0_checkIndex_df160 5 = .ok (.invokestatic 1059, 3) := by decide +kernel
theorem dJ0c_8 : decode cJ0_checkIndex_df160 8 = .ok (.pop, 1) := by decide +kernel
theorem dJ0c_9 : decode cJ0_checkIndex_df160 9 = .ok (.return_, 1) := by decide +kernel
def F_J0_checkIndex_df160 (a1 a2 : Int32) (h : PH) : Option PH := if a1 < 0 then none else if a1 < a2 then some h else none
theorem M_J0_checkIndex_df160 (E : EV) {a1 a2 : Int32} {h h2 : PH} (hyp : F_J0_checkIndex_df160 a1 a2 h = some h2) : MV E 103 yJ0_checkIndex_df160 cJ0_checkIndex_df160 2 none 1 22 [.int a1, .int a2] h h2 := by
  unfold F_J0_checkIndex_df160 at hyp
  by_cases q1 : a1 < 0
  · rw [if_pos q1] at hyp
    cases hyp
  rw [if_neg q1] at hyp
  by_cases q2 : a1 < a2
  · rw [if_pos q2] at hyp
    cases hyp
    refine MV.of 0 (by decide) rfl (fun X e1 C => ?_)
    subst e1
    replace C : CX X 103 cJ0_checkIndex_df160 2 RJ0 none 1 22 := C
    refine V_iload_n (pc := 0) C dJ0c_0 rfl ?_
    refine V_iload_n (pc := 1) C dJ0c_1 rfl ?_
    refine V_sio (pc := 2) C dJ0c_2 lx_J0_1053 ?_ ?_
    · refine V_statI (pc := 5) C dJ0c_5 lm_J0_1059 ms_J3_checkIndex_8e157 (M_J3_chk _ (Or.inl rfl) q1 q2) rfl pd_J3_checkIndex_8e157 (by decide) (by decide) (by decide) (As := [.int a1, .int a2, .null]) (rest := []) rfl (Nat.le_of_ble_eq_true rfl) ?_
      refine V_pop (pc := 8) C dJ0c_8 rfl ?_
      exact V_vret C dJ0c_9
    · refine V_statI (pc := 5) C dJ0c_5 lm_J0_1059 ms_J3_checkIndex_8e157 (M_J3_chk _ (Or.inr rfl) q1 q2) rfl pd_J3_checkIndex_8e157 (by decide) (by decide) (by decide) (As := [.int a1, .int a2, .ref 3000]) (rest := []) rfl (Nat.le_of_ble_eq_true rfl) ?_
      refine V_pop (pc := 8) C dJ0c_8 rfl ?_
      exact V_vret C dJ0c_9
  · rw [if_neg q2] at hyp
    cases hyp
