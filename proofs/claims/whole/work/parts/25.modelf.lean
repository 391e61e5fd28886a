theorem dX12_loadOf_0 : decode cX12_loadOf 0 = .ok (.iconst 0, 1) := by decide +kernel
theorem dX12_loadOf_1 : decode cX12_loadOf 1 = .ok (.istore_n 2, 1) := by decide +kernel
theorem dX12_loadOf_2 : decode cX12_loadOf 2 = .ok (.iconst 0, 1) := by decide +kernel
theorem dX12_loadOf_3 : decode cX12_loadOf 3 = .ok (.istore_n 3, 1) := by decide +kernel
theorem dX12_loadOf_4 : decode cX12_loadOf 4 = .ok (.iload_n 3, 1) := by decide +kernel
theorem dX12_loadOf_5 : decode cX12_loadOf 5 = .ok (.aload_n 0, 1) := by decide +kernel
theorem dX12_loadOf_6 : decode cX12_loadOf 6 = .ok (.getfield 424, 3) := by decide +kernel
theorem dX12_loadOf_9 : decode cX12_loadOf 9 = .ok (.if_icmp .ge 26, 3) := by decide +kernel
theorem dX12_loadOf_12 : decode cX12_loadOf 12 = .ok (.iload_n 2, 1) := by decide +kernel
theorem dX12_loadOf_13 : decode cX12_loadOf 13 = .ok (.aload_n 0, 1) := by decide +kernel
theorem dX12_loadOf_14 : decode cX12_loadOf 14 = .ok (.iload_n 3, 1) := by decide +kernel
theorem dX12_loadOf_15 : decode cX12_loadOf 15 = .ok (.iload_n 1, 1) := by decide +kernel
theorem dX12_loadOf_16 : decode cX12_loadOf 16 = .ok (.invokevirtual 430, 3) := by decide +kernel
theorem dX12_loadOf_19 : decode cX12_loadOf 19 = .ok (.ifCond .eq 7, 3) := by decide +kernel
theorem dX12_loadOf_22 : decode cX12_loadOf 22 = .ok (.iconst 1, 1) := by decide +kernel
theorem dX12_loadOf_23 : decode cX12_loadOf 23 = .ok (.goto 4, 3) := by decide +kernel
theorem dX12_loadOf_26 : decode cX12_loadOf 26 = .ok (.iconst 0, 1) := by decide +kernel
theorem dX12_loadOf_27 : decode cX12_loadOf 27 = .ok (.iadd, 1) := by decide +kernel
theorem dX12_loadOf_28 : decode cX12_loadOf 28 = .ok (.istore_n 2, 1) := by decide +kernel
theorem dX12_loadOf_29 : decode cX12_loadOf 29 = .ok (.iinc 3 1, 3) := by decide +kernel
theorem dX12_loadOf_32 : decode cX12_loadOf 32 = .ok (.goto (-28), 3) := by decide +kernel
theorem dX12_loadOf_35 : decode cX12_loadOf 35 = .ok (.iload_n 2, 1) := by decide +kernel
theorem dX12_loadOf_36 : decode cX12_loadOf 36 = .ok (.ireturn, 1) := by decide +kernel
def F_X12_loadOf_b27 (N : Nat) (rc4 : Int32 → Int32 → Int32 → PH → Option (Int32 × PH)) (x1 : Int32) (x3 : Int32) (s0 : Int32) (s1 : Int32) (h : PH) : Option (Int32 × PH) :=
  ib (s1 + s0) fun v1 =>
  ib (x3 + (1 : Int32)) fun v2 =>
  rc4 x1 v1 v2 h
set_option maxRecDepth 20000 in
set_option maxHeartbeats 4000000 in
theorem T_X12_loadOf_b27 {X : CT} (C : CX X 154 cX12_loadOf 4 RX12 (some .int) 1 22) {r0 : Int32} {h0 : PH} {N : Nat} {rc4 : Int32 → Int32 → Int32 → PH → Option (Int32 × PH)} (hr4 : ∀ (x1 : Int32) (x2 : Int32) (x3 : Int32) (h : PH), rc4 x1 x2 x3 h = some (r0, h0) → V X (QI X r0 h0) h 4 [some (.ref 103), some (.int x1), some (.int x2), some (.int x3)] []) : ∀ (x1 : Int32) (x3 : Int32) (s0 : Int32) (s1 : Int32) (h : PH), F_X12_loadOf_b27 N rc4 x1 x3 s0 s1 h = some (r0, h0) → V X (QI X r0 h0) h 27 [some (.ref 103), some (.int x1), none, some (.int x3)] [.int s0, .int s1] := by
  intro x1 x3 s0 s1 h hyp
  unfold F_X12_loadOf_b27 at hyp
  refine V_iadd (pc := 27) C dX12_loadOf_27 ?_
  obtain ⟨v1, ev1, hyp⟩ := ib_n hyp
  refine V_topI ev1 ?_
  refine V_istore_n (pc := 28) C dX12_loadOf_28 (by decide) rfl ?_
  obtain ⟨v2, ev2, hyp⟩ := ib_n hyp
  refine V_iinc (pc := 29) C dX12_loadOf_29 (v := v2) rfl (by rw [ev2]; rfl) (by decide) rfl ?_
  refine V_goto (pc := 32) C dX12_loadOf_32 (tgt := 4) (by decide) ?_
  refine V_weak (lv' := [some (.ref 103), some (.int x1), some (.int v1), some (.int v2)]) (lvle_s (lvle_s (lvle_s (lvle_s lvle_0)))) ?_
  exact hr4 x1 v1 v2 h hyp
def F_X12_loadOf_b4 (N : Nat) : Nat → Int32 → Int32 → Int32 → PH → Option (Int32 × PH)
  | 0, _, _, _, _ => none
  | n + 1, x1, x2, x3, h =>
    if (h.1 103 57) ≤ x3 then
      some (x2, h)
    else
      bI (F_X12_isInside x3 x1 h) fun r2 h3 =>
      if r2 = 0 then
        F_X12_loadOf_b27 N (F_X12_loadOf_b4 N n) x1 x3 (0 : Int32) x2 h3
      else
        F_X12_loadOf_b27 N (F_X12_loadOf_b4 N n) x1 x3 (1 : Int32) x2 h3
set_option maxRecDepth 20000 in
set_option maxHeartbeats 4000000 in
theorem T_X12_loadOf_b4 {X : CT} (C : CX X 154 cX12_loadOf 4 RX12 (some .int) 1 22) {r0 : Int32} {h0 : PH} {N : Nat} : ∀ (n : Nat) (x1 : Int32) (x2 : Int32) (x3 : Int32) (h : PH), F_X12_loadOf_b4 N n x1 x2 x3 h = some (r0, h0) → V X (QI X r0 h0) h 4 [some (.ref 103), some (.int x1), some (.int x2), some (.int x3)] [] := by
  intro n
  induction n with
  | zero =>
    intro x1 x2 x3 h hyp
    cases hyp
  | succ n ih =>
    intro x1 x2 x3 h hyp
    unfold F_X12_loadOf_b4 at hyp
    refine V_iload_n (pc := 4) C dX12_loadOf_4 rfl ?_
    refine V_aload_n (pc := 5) C dX12_loadOf_5 rfl ?_
    refine V_getI (pc := 6) C dX12_loadOf_6 lf_X12_424 fk_103_57 ?_
    refine V_icmp_ge (pc := 9) C dX12_loadOf_9 (tgt := 35) (by decide) (fun q1 => ?_) (fun q1 => ?_)
    · replace hyp := (if_pos q1).symm.trans hyp
      refine V_iload_n (pc := 35) C dX12_loadOf_35 rfl ?_
      cases hyp
      exact V_iret C dX12_loadOf_36
    · replace hyp := (if_neg q1).symm.trans hyp
      refine V_iload_n (pc := 12) C dX12_loadOf_12 rfl ?_
      refine V_aload_n (pc := 13) C dX12_loadOf_13 rfl ?_
      refine V_iload_n (pc := 14) C dX12_loadOf_14 rfl ?_
      refine V_iload_n (pc := 15) C dX12_loadOf_15 rfl ?_
      obtain ⟨r2, h3, eh3, hyp⟩ := bI_n hyp
      refine V_callI (pc := 16) C dX12_loadOf_16 lm_X12_430 mk_X12_isInside ok_103 rfl (M_X12_isInside _ eh3) rfl pd_X12_isInside (by decide) (by decide) (by decide) (As := [.int x3, .int x1]) (rest := [.int x2]) rfl (Nat.le_of_ble_eq_true rfl) ?_
      refine V_if_eq (pc := 19) C dX12_loadOf_19 (tgt := 26) (by decide) (fun q4 => ?_) (fun q4 => ?_)
      · replace hyp := (if_pos q4).symm.trans hyp
        refine V_iconst (pc := 26) C dX12_loadOf_26 (v := 0) (by decide) ?_
        refine V_weak (lv' := [some (.ref 103), some (.int x1), none, some (.int x3)]) (lvle_s (lvle_s (lvle_n (lvle_s lvle_0)))) ?_
        exact (T_X12_loadOf_b27 C ih) x1 x3 (0 : Int32) x2 h3 hyp
      · replace hyp := (if_neg q4).symm.trans hyp
        refine V_iconst (pc := 22) C dX12_loadOf_22 (v := 1) (by decide) ?_
        refine V_goto (pc := 23) C dX12_loadOf_23 (tgt := 27) (by decide) ?_
        refine V_weak (lv' := [some (.ref 103), some (.int x1), none, some (.int x3)]) (lvle_s (lvle_s (lvle_n (lvle_s lvle_0)))) ?_
        exact (T_X12_loadOf_b27 C ih) x1 x3 (1 : Int32) x2 h3 hyp
def F_X12_loadOf (N : Nat) (a1 : Int32) (h : PH) : Option (Int32 × PH) :=
  F_X12_loadOf_b4 N N a1 (0 : Int32) (0 : Int32) h
set_option maxRecDepth 20000 in
set_option maxHeartbeats 4000000 in
theorem M_X12_loadOf (E : EV) {N : Nat} {a1 : Int32} {r : Int32} {h h2 : PH} (hyp : F_X12_loadOf N a1 h = some (r, h2)) : MI E 154 yX12_loadOf cX12_loadOf 4 (some .int) 1 22 [.ref 103, .int a1] h r h2 := by
  refine MI.of 2 (by decide) rfl (fun X e1 C => ?_)
  subst e1
  replace C : CX X 154 cX12_loadOf 4 RX12 (some .int) 1 22 := C
  show V X _ h 0 [some (.ref 103), some (.int a1), none, none] []
  unfold F_X12_loadOf at hyp
  refine V_iconst (pc := 0) C dX12_loadOf_0 (v := 0) (by decide) ?_
  refine V_istore_n (pc := 1) C dX12_loadOf_1 (by decide) rfl ?_
  refine V_iconst (pc := 2) C dX12_loadOf_2 (v := 0) (by decide) ?_
  refine V_istore_n (pc := 3) C dX12_loadOf_3 (by decide) rfl ?_
  refine V_weak (lv' := [some (.ref 103), some (.int a1), some (.int (0 : Int32)), some (.int (0 : Int32))]) (lvle_s (lvle_s (lvle_s (lvle_s lvle_0)))) ?_
  exact (T_X12_loadOf_b4 C) N a1 (0 : Int32) (0 : Int32) h hyp
theorem dX12_goalsOf_0 : decode cX12_goalsOf 0 = .ok (.iconst 0, 1) := by decide +kernel
theorem dX12_goalsOf_1 : decode cX12_goalsOf 1 = .ok (.istore_n 2, 1) := by decide +kernel
theorem dX12_goalsOf_2 : decode cX12_goalsOf 2 = .ok (.aload_n 0, 1) := by decide +kernel
theorem dX12_goalsOf_3 : decode cX12_goalsOf 3 = .ok (.iload_n 1, 1) := by decide +kernel
theorem dX12_goalsOf_4 : decode cX12_goalsOf 4 = .ok (.invokevirtual 433, 3) := by decide +kernel
theorem dX12_goalsOf_7 : decode cX12_goalsOf 7 = .ok (.aload_n 0, 1) := by decide +kernel
theorem dX12_goalsOf_8 : decode cX12_goalsOf 8 = .ok (.getfield 114, 3) := by decide +kernel
theorem dX12_goalsOf_11 : decode cX12_goalsOf 11 = .ok (.if_icmp .ne 7, 3) := by decide +kernel
theorem dX12_goalsOf_14 : decode cX12_goalsOf 14 = .ok (.iconst 1, 1) := by decide +kernel
theorem dX12_goalsOf_15 : decode cX12_goalsOf 15 = .ok (.goto 4, 3) := by decide +kernel
theorem dX12_goalsOf_18 : decode cX12_goalsOf 18 = .ok (.iconst 0, 1) := by decide +kernel
theorem dX12_goalsOf_19 : decode cX12_goalsOf 19 = .ok (.istore_n 3, 1) := by decide +kernel
theorem dX12_goalsOf_20 : decode cX12_goalsOf 20 = .ok (.iconst 0, 1) := by decide +kernel
theorem dX12_goalsOf_21 : decode cX12_goalsOf 21 = .ok (.istore 4, 2) := by decide +kernel
theorem dX12_goalsOf_23 : decode cX12_goalsOf 23 = .ok (.iload 4, 2) := by decide +kernel
theorem dX12_goalsOf_25 : decode cX12_goalsOf 25 = .ok (.aload_n 0, 1) := by decide +kernel
theorem dX12_goalsOf_26 : decode cX12_goalsOf 26 = .ok (.getfield 424, 3) := by decide +kernel
theorem dX12_goalsOf_29 : decode cX12_goalsOf 29 = .ok (.if_icmp .ge 57, 3) := by decide +kernel
theorem dX12_goalsOf_32 : decode cX12_goalsOf 32 = .ok (.aload_n 0, 1) := by decide +kernel
theorem dX12_goalsOf_33 : decode cX12_goalsOf 33 = .ok (.iload 4, 2) := by decide +kernel
theorem dX12_goalsOf_35 : decode cX12_goalsOf 35 = .ok (.iload_n 1, 1) := by decide +kernel
theorem dX12_goalsOf_36 : decode cX12_goalsOf 36 = .ok (.invokevirtual 430, 3) := by decide +kernel
theorem dX12_goalsOf_39 : decode cX12_goalsOf 39 = .ok (.ifCond .eq 15, 3) := by decide +kernel
theorem dX12_goalsOf_42 : decode cX12_goalsOf 42 = .ok (.iload_n 2, 1) := by decide +kernel
theorem dX12_goalsOf_43 : decode cX12_goalsOf 43 = .ok (.iconst 1, 1) := by decide +kernel
theorem dX12_goalsOf_44 : decode cX12_goalsOf 44 = .ok (.aload_n 0, 1) := by decide +kernel
theorem dX12_goalsOf_45 : decode cX12_goalsOf 45 = .ok (.getfield 126, 3) := by decide +kernel
theorem dX12_goalsOf_48 : decode cX12_goalsOf 48 = .ok (.iload 4, 2) := by decide +kernel
theorem dX12_goalsOf_50 : decode cX12_goalsOf 50 = .ok (.iaload, 1) := by decide +kernel
theorem dX12_goalsOf_51 : decode cX12_goalsOf 51 = .ok (.ishl, 1) := by decide +kernel
theorem dX12_goalsOf_52 : decode cX12_goalsOf 52 = .ok (.ior, 1) := by decide +kernel
theorem dX12_goalsOf_53 : decode cX12_goalsOf 53 = .ok (.istore_n 2, 1) := by decide +kernel
theorem dX12_goalsOf_54 : decode cX12_goalsOf 54 = .ok (.aload_n 0, 1) := by decide +kernel
theorem dX12_goalsOf_55 : decode cX12_goalsOf 55 = .ok (.iload 4, 2) := by decide +kernel
theorem dX12_goalsOf_57 : decode cX12_goalsOf 57 = .ok (.iload_n 1, 1) := by decide +kernel
theorem dX12_goalsOf_58 : decode cX12_goalsOf 58 = .ok (.invokevirtual 436, 3) := by decide +kernel
theorem dX12_goalsOf_61 : decode cX12_goalsOf 61 = .ok (.ifCond .eq 19, 3) := by decide +kernel
theorem dX12_goalsOf_64 : decode cX12_goalsOf 64 = .ok (.iload_n 3, 1) := by decide +kernel
theorem dX12_goalsOf_65 : decode cX12_goalsOf 65 = .ok (.ifCond .ne 15, 3) := by decide +kernel
theorem dX12_goalsOf_68 : decode cX12_goalsOf 68 = .ok (.iload_n 2, 1) := by decide +kernel
theorem dX12_goalsOf_69 : decode cX12_goalsOf 69 = .ok (.iconst 1, 1) := by decide +kernel
theorem dX12_goalsOf_70 : decode cX12_goalsOf 70 = .ok (.aload_n 0, 1) := by decide +kernel
theorem dX12_goalsOf_71 : decode cX12_goalsOf 71 = .ok (.getfield 123, 3) := by decide +kernel
theorem dX12_goalsOf_74 : decode cX12_goalsOf 74 = .ok (.iload 4, 2) := by decide +kernel
theorem dX12_goalsOf_76 : decode cX12_goalsOf 76 = .ok (.iaload, 1) := by decide +kernel
theorem dX12_goalsOf_77 : decode cX12_goalsOf 77 = .ok (.ishl, 1) := by decide +kernel
theorem dX12_goalsOf_78 : decode cX12_goalsOf 78 = .ok (.ior, 1) := by decide +kernel
theorem dX12_goalsOf_79 : decode cX12_goalsOf 79 = .ok (.istore_n 2, 1) := by decide +kernel
theorem dX12_goalsOf_80 : decode cX12_goalsOf 80 = .ok (.iinc 4 1, 3) := by decide +kernel
theorem dX12_goalsOf_83 : decode cX12_goalsOf 83 = .ok (.goto (-60), 3) := by decide +kernel
theorem dX12_goalsOf_86 : decode cX12_goalsOf 86 = .ok (.iload_n 2, 1) := by decide +kernel
theorem dX12_goalsOf_87 : decode cX12_goalsOf 87 = .ok (.ireturn, 1) := by decide +kernel
def F_X12_goalsOf_b80 (N : Nat) (rc23 : Int32 → Int32 → Int32 → Int32 → PH → Option (Int32 × PH)) (x1 : Int32) (x2 : Int32) (x3 : Int32) (x4 : Int32) (h : PH) : Option (Int32 × PH) :=
  ib (x4 + (1 : Int32)) fun v1 =>
  rc23 x1 x2 x3 v1 h
set_option maxRecDepth 20000 in
set_option maxHeartbeats 4000000 in
theorem T_X12_goalsOf_b80 {X : CT} (C : CX X 154 cX12_goalsOf 5 RX12 (some .int) 2 45) {r0 : Int32} {h0 : PH} {N : Nat} {rc23 : Int32 → Int32 → Int32 → Int32 → PH → Option (Int32 × PH)} (hr23 : ∀ (x1 : Int32) (x2 : Int32) (x3 : Int32) (x4 : Int32) (h : PH), rc23 x1 x2 x3 x4 h = some (r0, h0) → V X (QI X r0 h0) h 23 [some (.ref 103), some (.int x1), some (.int x2), some (.int x3), some (.int x4)] []) : ∀ (x1 : Int32) (x2 : Int32) (x3 : Int32) (x4 : Int32) (h : PH), F_X12_goalsOf_b80 N rc23 x1 x2 x3 x4 h = some (r0, h0) → V X (QI X r0 h0) h 80 [some (.ref 103), some (.int x1), some (.int x2), some (.int x3), some (.int x4)] [] := by
  intro x1 x2 x3 x4 h hyp
  unfold F_X12_goalsOf_b80 at hyp
  obtain ⟨v1, ev1, hyp⟩ := ib_n hyp
  refine V_iinc (pc := 80) C dX12_goalsOf_80 (v := v1) rfl (by rw [ev1]; rfl) (by decide) rfl ?_
  refine V_goto (pc := 83) C dX12_goalsOf_83 (tgt := 23) (by decide) ?_
  refine V_weak (lv' := [some (.ref 103), some (.int x1), some (.int x2), some (.int x3), some (.int v1)]) (lvle_s (lvle_s (lvle_s (lvle_s (lvle_s lvle_0))))) ?_
  exact hr23 x1 x2 x3 v1 h hyp
def F_X12_goalsOf_b54 (N : Nat) (rc23 : Int32 → Int32 → Int32 → Int32 → PH → Option (Int32 × PH)) (x1 : Int32) (x2 : Int32) (x3 : Int32) (x4 : Int32) (h : PH) : Option (Int32 × PH) :=
  bI (F_X12_isWaiting x4 x1 h) fun r1 h2 =>
  if r1 = 0 then
    F_X12_goalsOf_b80 N rc23 x1 x2 x3 x4 h2
  else
    if x3 = 0 then
      if inb x4 24 = true then
      ib (x2 ||| ((1 : Int32) <<< ((h2.1 137 x4.toNatClampNeg) &&& 31))) fun v6 =>
      F_X12_goalsOf_b80 N rc23 x1 v6 x3 x4 h2
      else none
    else
      F_X12_goalsOf_b80 N rc23 x1 x2 x3 x4 h2
set_option maxRecDepth 20000 in
set_option maxHeartbeats 4000000 in
theorem T_X12_goalsOf_b54 {X : CT} (C : CX X 154 cX12_goalsOf 5 RX12 (some .int) 2 45) {r0 : Int32} {h0 : PH} {N : Nat} {rc23 : Int32 → Int32 → Int32 → Int32 → PH → Option (Int32 × PH)} (hr23 : ∀ (x1 : Int32) (x2 : Int32) (x3 : Int32) (x4 : Int32) (h : PH), rc23 x1 x2 x3 x4 h = some (r0, h0) → V X (QI X r0 h0) h 23 [some (.ref 103), some (.int x1), some (.int x2), some (.int x3), some (.int x4)] []) : ∀ (x1 : Int32) (x2 : Int32) (x3 : Int32) (x4 : Int32) (h : PH), F_X12_goalsOf_b54 N rc23 x1 x2 x3 x4 h = some (r0, h0) → V X (QI X r0 h0) h 54 [some (.ref 103), some (.int x1), some (.int x2), some (.int x3), some (.int x4)] [] := by
  intro x1 x2 x3 x4 h hyp
  unfold F_X12_goalsOf_b54 at hyp
  refine V_aload_n (pc := 54) C dX12_goalsOf_54 rfl ?_
  refine V_iload (pc := 55) C dX12_goalsOf_55 rfl ?_
  refine V_iload_n (pc := 57) C dX12_goalsOf_57 rfl ?_
  obtain ⟨r1, h2, eh2, hyp⟩ := bI_n hyp
  refine V_callI (pc := 58) C dX12_goalsOf_58 lm_X12_436 mk_X12_isWaiting ok_103 rfl (M_X12_isWaiting _ eh2) rfl pd_X12_isWaiting (by decide) (by decide) (by decide) (As := [.int x4, .int x1]) (rest := []) rfl (Nat.le_of_ble_eq_true rfl) ?_
  refine V_if_eq (pc := 61) C dX12_goalsOf_61 (tgt := 80) (by decide) (fun q3 => ?_) (fun q3 => ?_)
  · replace hyp := (if_pos q3).symm.trans hyp
    refine V_weak (lv' := [some (.ref 103), some (.int x1), some (.int x2), some (.int x3), some (.int x4)]) (lvle_s (lvle_s (lvle_s (lvle_s (lvle_s lvle_0))))) ?_
    exact (T_X12_goalsOf_b80 C hr23) x1 x2 x3 x4 h2 hyp
  · replace hyp := (if_neg q3).symm.trans hyp
    refine V_iload_n (pc := 64) C dX12_goalsOf_64 rfl ?_
    refine V_if_ne (pc := 65) C dX12_goalsOf_65 (tgt := 80) (by decide) (fun q4 => ?_) (fun q4 => ?_)
    · replace hyp := (if_neg q4).symm.trans hyp
      refine V_weak (lv' := [some (.ref 103), some (.int x1), some (.int x2), some (.int x3), some (.int x4)]) (lvle_s (lvle_s (lvle_s (lvle_s (lvle_s lvle_0))))) ?_
      exact (T_X12_goalsOf_b80 C hr23) x1 x2 x3 x4 h2 hyp
    · replace hyp := (if_pos q4).symm.trans hyp
      refine V_iload_n (pc := 68) C dX12_goalsOf_68 rfl ?_
      refine V_iconst (pc := 69) C dX12_goalsOf_69 (v := 1) (by decide) ?_
      refine V_aload_n (pc := 70) C dX12_goalsOf_70 rfl ?_
      refine V_getR (pc := 71) C dX12_goalsOf_71 lf_X12_123 fk_103_59 ?_
      refine V_iload (pc := 74) C dX12_goalsOf_74 rfl ?_
      obtain ⟨g5, hyp⟩ := gd_n hyp
      refine V_iald (pc := 76) C dX12_goalsOf_76 ak_137 g5 ?_
      refine V_ishl (pc := 77) C dX12_goalsOf_77 ?_
      refine V_ior (pc := 78) C dX12_goalsOf_78 ?_
      obtain ⟨v6, ev6, hyp⟩ := ib_n hyp
      refine V_topI ev6 ?_
      refine V_istore_n (pc := 79) C dX12_goalsOf_79 (by decide) rfl ?_
      refine V_weak (lv' := [some (.ref 103), some (.int x1), some (.int v6), some (.int x3), some (.int x4)]) (lvle_s (lvle_s (lvle_s (lvle_s (lvle_s lvle_0))))) ?_
      exact (T_X12_goalsOf_b80 C hr23) x1 v6 x3 x4 h2 hyp
def F_X12_goalsOf_b23 (N : Nat) : Nat → Int32 → Int32 → Int32 → Int32 → PH → Option (Int32 × PH)
  | 0, _, _, _, _, _ => none
  | n + 1, x1, x2, x3, x4, h =>
    if (h.1 103 57) ≤ x4 then
      some (x2, h)
    else
      bI (F_X12_isInside x4 x1 h) fun r2 h3 =>
      if r2 = 0 then
        F_X12_goalsOf_b54 N (F_X12_goalsOf_b23 N n) x1 x2 x3 x4 h3
      else
        if inb x4 24 = true then
        ib (x2 ||| ((1 : Int32) <<< ((h3.1 138 x4.toNatClampNeg) &&& 31))) fun v6 =>
        F_X12_goalsOf_b54 N (F_X12_goalsOf_b23 N n) x1 v6 x3 x4 h3
        else none
set_option maxRecDepth 20000 in
set_option maxHeartbeats 4000000 in
theorem T_X12_goalsOf_b23 {X : CT} (C : CX X 154 cX12_goalsOf 5 RX12 (some .int) 2 45) {r0 : Int32} {h0 : PH} {N : Nat} : ∀ (n : Nat) (x1 : Int32) (x2 : Int32) (x3 : Int32) (x4 : Int32) (h : PH), F_X12_goalsOf_b23 N n x1 x2 x3 x4 h = some (r0, h0) → V X (QI X r0 h0) h 23 [some (.ref 103), some (.int x1), some (.int x2), some (.int x3), some (.int x4)] [] := by
  intro n
  induction n with
  | zero =>
    intro x1 x2 x3 x4 h hyp
    cases hyp
  | succ n ih =>
    intro x1 x2 x3 x4 h hyp
    unfold F_X12_goalsOf_b23 at hyp
    refine V_iload (pc := 23) C dX12_goalsOf_23 rfl ?_
    refine V_aload_n (pc := 25) C dX12_goalsOf_25 rfl ?_
    refine V_getI (pc := 26) C dX12_goalsOf_26 lf_X12_424 fk_103_57 ?_
    refine V_icmp_ge (pc := 29) C dX12_goalsOf_29 (tgt := 86) (by decide) (fun q1 => ?_) (fun q1 => ?_)
    · replace hyp := (if_pos q1).symm.trans hyp
      refine V_iload_n (pc := 86) C dX12_goalsOf_86 rfl ?_
      cases hyp
      exact V_iret C dX12_goalsOf_87
    · replace hyp := (if_neg q1).symm.trans hyp
      refine V_aload_n (pc := 32) C dX12_goalsOf_32 rfl ?_
      refine V_iload (pc := 33) C dX12_goalsOf_33 rfl ?_
      refine V_iload_n (pc := 35) C dX12_goalsOf_35 rfl ?_
      obtain ⟨r2, h3, eh3, hyp⟩ := bI_n hyp
      refine V_callI (pc := 36) C dX12_goalsOf_36 lm_X12_430 mk_X12_isInside ok_103 rfl (M_X12_isInside _ eh3) rfl pd_X12_isInside (by decide) (by decide) (by decide) (As := [.int x4, .int x1]) (rest := []) rfl (Nat.le_of_ble_eq_true rfl) ?_
      refine V_if_eq (pc := 39) C dX12_goalsOf_39 (tgt := 54) (by decide) (fun q4 => ?_) (fun q4 => ?_)
      · replace hyp := (if_pos q4).symm.trans hyp
        refine V_weak (lv' := [some (.ref 103), some (.int x1), some (.int x2), some (.int x3), some (.int x4)]) (lvle_s (lvle_s (lvle_s (lvle_s (lvle_s lvle_0))))) ?_
        exact (T_X12_goalsOf_b54 C ih) x1 x2 x3 x4 h3 hyp
      · replace hyp := (if_neg q4).symm.trans hyp
        refine V_iload_n (pc := 42) C dX12_goalsOf_42 rfl ?_
        refine V_iconst (pc := 43) C dX12_goalsOf_43 (v := 1) (by decide) ?_
        refine V_aload_n (pc := 44) C dX12_goalsOf_44 rfl ?_
        refine V_getR (pc := 45) C dX12_goalsOf_45 lf_X12_126 fk_103_60 ?_
        refine V_iload (pc := 48) C dX12_goalsOf_48 rfl ?_
        obtain ⟨g5, hyp⟩ := gd_n hyp
        refine V_iald (pc := 50) C dX12_goalsOf_50 ak_138 g5 ?_
        refine V_ishl (pc := 51) C dX12_goalsOf_51 ?_
        refine V_ior (pc := 52) C dX12_goalsOf_52 ?_
        obtain ⟨v6, ev6, hyp⟩ := ib_n hyp
        refine V_topI ev6 ?_
        refine V_istore_n (pc := 53) C dX12_goalsOf_53 (by decide) rfl ?_
        refine V_weak (lv' := [some (.ref 103), some (.int x1), some (.int v6), some (.int x3), some (.int x4)]) (lvle_s (lvle_s (lvle_s (lvle_s (lvle_s lvle_0))))) ?_
        exact (T_X12_goalsOf_b54 C ih) x1 v6 x3 x4 h3 hyp
def F_X12_goalsOf_b19 (N : Nat) (x1 : Int32) (x2 : Int32) (s0 : Int32) (h : PH) : Option (Int32 × PH) :=
  F_X12_goalsOf_b23 N N x1 x2 s0 (0 : Int32) h
set_option maxRecDepth 20000 in
set_option maxHeartbeats 4000000 in
theorem T_X12_goalsOf_b19 {X : CT} (C : CX X 154 cX12_goalsOf 5 RX12 (some .int) 2 45) {r0 : Int32} {h0 : PH} {N : Nat} : ∀ (x1 : Int32) (x2 : Int32) (s0 : Int32) (h : PH), F_X12_goalsOf_b19 N x1 x2 s0 h = some (r0, h0) → V X (QI X r0 h0) h 19 [some (.ref 103), some (.int x1), some (.int x2), none, none] [.int s0] := by
  intro x1 x2 s0 h hyp
  unfold F_X12_goalsOf_b19 at hyp
  refine V_istore_n (pc := 19) C dX12_goalsOf_19 (by decide) rfl ?_
  refine V_iconst (pc := 20) C dX12_goalsOf_20 (v := 0) (by decide) ?_
  refine V_istore (pc := 21) C dX12_goalsOf_21 (by decide) rfl ?_
  refine V_weak (lv' := [some (.ref 103), some (.int x1), some (.int x2), some (.int s0), some (.int (0 : Int32))]) (lvle_s (lvle_s (lvle_s (lvle_s (lvle_s lvle_0))))) ?_
  exact (T_X12_goalsOf_b23 C) N x1 x2 s0 (0 : Int32) h hyp
def F_X12_goalsOf (N : Nat) (a1 : Int32) (h : PH) : Option (Int32 × PH) :=
  bI (F_X12_loadOf N a1 h) fun r1 h2 =>
  if r1 = (h2.1 103 54) then
    F_X12_goalsOf_b19 N a1 (0 : Int32) (1 : Int32) h2
  else
    F_X12_goalsOf_b19 N a1 (0 : Int32) (0 : Int32) h2
set_option maxRecDepth 20000 in
set_option maxHeartbeats 4000000 in
theorem M_X12_goalsOf (E : EV) {N : Nat} {a1 : Int32} {r : Int32} {h h2 : PH} (hyp : F_X12_goalsOf N a1 h = some (r, h2)) : MI E 154 yX12_goalsOf cX12_goalsOf 5 (some .int) 2 45 [.ref 103, .int a1] h r h2 := by
  refine MI.of 3 (by decide) rfl (fun X e1 C => ?_)
  subst e1
  replace C : CX X 154 cX12_goalsOf 5 RX12 (some .int) 2 45 := C
  show V X _ h 0 [some (.ref 103), some (.int a1), none, none, none] []
  unfold F_X12_goalsOf at hyp
  refine V_iconst (pc := 0) C dX12_goalsOf_0 (v := 0) (by decide) ?_
  refine V_istore_n (pc := 1) C dX12_goalsOf_1 (by decide) rfl ?_
  refine V_aload_n (pc := 2) C dX12_goalsOf_2 rfl ?_
  refine V_iload_n (pc := 3) C dX12_goalsOf_3 rfl ?_
  obtain ⟨r1, h2, eh2, hyp⟩ := bI_n hyp
  refine V_callI (pc := 4) C dX12_goalsOf_4 lm_X12_433 mk_X12_loadOf ok_103 rfl (M_X12_loadOf _ eh2) rfl pd_X12_loadOf (by decide) (by decide) (by decide) (As := [.int a1]) (rest := []) rfl (Nat.le_of_ble_eq_true rfl) ?_
  refine V_aload_n (pc := 7) C dX12_goalsOf_7 rfl ?_
  refine V_getI (pc := 8) C dX12_goalsOf_8 lf_X12_114 fk_103_54 ?_
  refine V_icmp_ne (pc := 11) C dX12_goalsOf_11 (tgt := 18) (by decide) (fun q3 => ?_) (fun q3 => ?_)
  · replace hyp := (if_neg q3).symm.trans hyp
    refine V_iconst (pc := 18) C dX12_goalsOf_18 (v := 0) (by decide) ?_
    refine V_weak (lv' := [some (.ref 103), some (.int a1), some (.int (0 : Int32)), none, none]) (lvle_s (lvle_s (lvle_s (lvle_n (lvle_n lvle_0))))) ?_
    exact (T_X12_goalsOf_b19 C) a1 (0 : Int32) (0 : Int32) h2 hyp
  · replace hyp := (if_pos q3).symm.trans hyp
    refine V_iconst (pc := 14) C dX12_goalsOf_14 (v := 1) (by decide) ?_
    refine V_goto (pc := 15) C dX12_goalsOf_15 (tgt := 19) (by decide) ?_
    refine V_weak (lv' := [some (.ref 103), some (.int a1), some (.int (0 : Int32)), none, none]) (lvle_s (lvle_s (lvle_s (lvle_n (lvle_n lvle_0))))) ?_
    exact (T_X12_goalsOf_b19 C) a1 (0 : Int32) (1 : Int32) h2 hyp
theorem dX12_bits_0 : decode cX12_bits 0 = .ok (.iconst 0, 1) := by decide +kernel
theorem dX12_bits_1 : decode cX12_bits 1 = .ok (.istore_n 1, 1) := by decide +kernel
theorem dX12_bits_2 : decode cX12_bits 2 = .ok (.iconst 0, 1) := by decide +kernel
theorem dX12_bits_3 : decode cX12_bits 3 = .ok (.istore_n 2, 1) := by decide +kernel
theorem dX12_bits_4 : decode cX12_bits 4 = .ok (.iload_n 2, 1) := by decide +kernel
theorem dX12_bits_5 : decode cX12_bits 5 = .ok (.bipush 6, 2) := by decide +kernel
theorem dX12_bits_7 : decode cX12_bits 7 = .ok (.if_icmp .ge 17, 3) := by decide +kernel
theorem dX12_bits_10 : decode cX12_bits 10 = .ok (.iload_n 1, 1) := by decide +kernel
theorem dX12_bits_11 : decode cX12_bits 11 = .ok (.iload_n 0, 1) := by decide +kernel
theorem dX12_bits_12 : decode cX12_bits 12 = .ok (.iload_n 2, 1) := by decide +kernel
theorem dX12_bits_13 : decode cX12_bits 13 = .ok (.ishr, 1) := by decide +kernel
theorem dX12_bits_14 : decode cX12_bits 14 = .ok (.iconst 1, 1) := by decide +kernel
theorem dX12_bits_15 : decode cX12_bits 15 = .ok (.iand, 1) := by decide +kernel
theorem dX12_bits_16 : decode cX12_bits 16 = .ok (.iadd, 1) := by decide +kernel
theorem dX12_bits_17 : decode cX12_bits 17 = .ok (.istore_n 1, 1) := by decide +kernel
theorem dX12_bits_18 : decode cX12_bits 18 = .ok (.iinc 2 1, 3) := by decide +kernel
theorem dX12_bits_21 : decode cX12_bits 21 = .ok (.goto (-17), 3) := by decide +kernel
theorem dX12_bits_24 : decode cX12_bits 24 = .ok (.iload_n 1, 1) := by decide +kernel
theorem dX12_bits_25 : decode cX12_bits 25 = .ok (.ireturn, 1) := by decide +kernel
def F_X12_bits_b4 (N : Nat) : Nat → Int32 → Int32 → Int32 → PH → Option (Int32 × PH)
  | 0, _, _, _, _ => none
  | n + 1, x0, x1, x2, h =>
    if (6 : Int32) ≤ x2 then
      some (x1, h)
    else
      ib (x1 + ((x0 >>> (x2 &&& 31)) &&& (1 : Int32))) fun v2 =>
      ib (x2 + (1 : Int32)) fun v3 =>
      F_X12_bits_b4 N n x0 v2 v3 h
set_option maxRecDepth 20000 in
set_option maxHeartbeats 4000000 in
theorem T_X12_bits_b4 {X : CT} (C : CX X 154 cX12_bits 3 RX12 (some .int) 0 0) {r0 : Int32} {h0 : PH} {N : Nat} : ∀ (n : Nat) (x0 : Int32) (x1 : Int32) (x2 : Int32) (h : PH), F_X12_bits_b4 N n x0 x1 x2 h = some (r0, h0) → V X (QI X r0 h0) h 4 [some (.int x0), some (.int x1), some (.int x2)] [] := by
  intro n
  induction n with
  | zero =>
    intro x0 x1 x2 h hyp
    cases hyp
  | succ n ih =>
    intro x0 x1 x2 h hyp
    unfold F_X12_bits_b4 at hyp
    refine V_iload_n (pc := 4) C dX12_bits_4 rfl ?_
    refine V_bipush (pc := 5) C dX12_bits_5 (v := 6) (by decide) ?_
    refine V_icmp_ge (pc := 7) C dX12_bits_7 (tgt := 24) (by decide) (fun q1 => ?_) (fun q1 => ?_)
    · replace hyp := (if_pos q1).symm.trans hyp
      refine V_iload_n (pc := 24) C dX12_bits_24 rfl ?_
      cases hyp
      exact V_iret C dX12_bits_25
    · replace hyp := (if_neg q1).symm.trans hyp
      refine V_iload_n (pc := 10) C dX12_bits_10 rfl ?_
      refine V_iload_n (pc := 11) C dX12_bits_11 rfl ?_
      refine V_iload_n (pc := 12) C dX12_bits_12 rfl ?_
      refine V_ishr (pc := 13) C dX12_bits_13 ?_
      refine V_iconst (pc := 14) C dX12_bits_14 (v := 1) (by decide) ?_
      refine V_iand (pc := 15) C dX12_bits_15 ?_
      refine V_iadd (pc := 16) C dX12_bits_16 ?_
      obtain ⟨v2, ev2, hyp⟩ := ib_n hyp
      refine V_topI ev2 ?_
      refine V_istore_n (pc := 17) C dX12_bits_17 (by decide) rfl ?_
      obtain ⟨v3, ev3, hyp⟩ := ib_n hyp
      refine V_iinc (pc := 18) C dX12_bits_18 (v := v3) rfl (by rw [ev3]; rfl) (by decide) rfl ?_
      refine V_goto (pc := 21) C dX12_bits_21 (tgt := 4) (by decide) ?_
      refine V_weak (lv' := [some (.int x0), some (.int v2), some (.int v3)]) (lvle_s (lvle_s (lvle_s lvle_0))) ?_
      exact ih x0 v2 v3 h hyp
def F_X12_bits (N : Nat) (a1 : Int32) (h : PH) : Option (Int32 × PH) :=
  F_X12_bits_b4 N N a1 (0 : Int32) (0 : Int32) h
set_option maxRecDepth 20000 in
set_option maxHeartbeats 4000000 in
theorem M_X12_bits (E : EV) {N : Nat} {a1 : Int32} {r : Int32} {h h2 : PH} (hyp : F_X12_bits N a1 h = some (r, h2)) : MI E 154 yX12_bits cX12_bits 3 (some .int) 0 0 [.int a1] h r h2 := by
  refine MI.of 2 (by decide) rfl (fun X e1 C => ?_)
  subst e1
  replace C : CX X 154 cX12_bits 3 RX12 (some .int) 0 0 := C
  show V X _ h 0 [some (.int a1), none, none] []
  unfold F_X12_bits at hyp
  refine V_iconst (pc := 0) C dX12_bits_0 (v := 0) (by decide) ?_
  refine V_istore_n (pc := 1) C dX12_bits_1 (by decide) rfl ?_
  refine V_iconst (pc := 2) C dX12_bits_2 (v := 0) (by decide) ?_
  refine V_istore_n (pc := 3) C dX12_bits_3 (by decide) rfl ?_
  refine V_weak (lv' := [some (.int a1), some (.int (0 : Int32)), some (.int (0 : Int32))]) (lvle_s (lvle_s (lvle_s lvle_0))) ?_
  exact (T_X12_bits_b4 C) N a1 (0 : Int32) (0 : Int32) h hyp
theorem dX12_ruleOf_0 : decode cX12_ruleOf 0 = .ok (.aload_n 0, 1) := by decide +kernel
theorem dX12_ruleOf_1 : decode cX12_ruleOf 1 = .ok (.getfield 187, 3) := by decide +kernel
theorem dX12_ruleOf_4 : decode cX12_ruleOf 4 = .ok (.ifCond .ne 5, 3) := by decide +kernel
theorem dX12_ruleOf_7 : decode cX12_ruleOf 7 = .ok (.iconst 0, 1) := by decide +kernel
theorem dX12_ruleOf_8 : decode cX12_ruleOf 8 = .ok (.ireturn, 1) := by decide +kernel
theorem dX12_ruleOf_9 : decode cX12_ruleOf 9 = .ok (.aload_n 0, 1) := by decide +kernel
theorem dX12_ruleOf_10 : decode cX12_ruleOf 10 = .ok (.getfield 150, 3) := by decide +kernel
theorem dX12_ruleOf_13 : decode cX12_ruleOf 13 = .ok (.iload_n 1, 1) := by decide +kernel
theorem dX12_ruleOf_14 : decode cX12_ruleOf 14 = .ok (.iaload, 1) := by decide +kernel
theorem dX12_ruleOf_15 : decode cX12_ruleOf 15 = .ok (.aload_n 0, 1) := by decide +kernel
theorem dX12_ruleOf_16 : decode cX12_ruleOf 16 = .ok (.getfield 123, 3) := by decide +kernel
theorem dX12_ruleOf_19 : decode cX12_ruleOf 19 = .ok (.iload_n 2, 1) := by decide +kernel
theorem dX12_ruleOf_20 : decode cX12_ruleOf 20 = .ok (.iaload, 1) := by decide +kernel
theorem dX12_ruleOf_21 : decode cX12_ruleOf 21 = .ok (.isub, 1) := by decide +kernel
theorem dX12_ruleOf_22 : decode cX12_ruleOf 22 = .ok (.istore 4, 2) := by decide +kernel
theorem dX12_ruleOf_24 : decode cX12_ruleOf 24 = .ok (.aload_n 0, 1) := by decide +kernel
theorem dX12_ruleOf_25 : decode cX12_ruleOf 25 = .ok (.iload_n 1, 1) := by decide +kernel
theorem dX12_ruleOf_26 : decode cX12_ruleOf 26 = .ok (.invokevirtual 439, 3) := by decide +kernel
theorem dX12_ruleOf_29 : decode cX12_ruleOf 29 = .ok (.istore 5, 2) := by decide +kernel
theorem dX12_ruleOf_31 : decode cX12_ruleOf 31 = .ok (.aload_n 0, 1) := by decide +kernel
theorem dX12_ruleOf_32 : decode cX12_ruleOf 32 = .ok (.getfield 72, 3) := by decide +kernel
theorem dX12_ruleOf_35 : decode cX12_ruleOf 35 = .ok (.iconst 1, 1) := by decide +kernel
theorem dX12_ruleOf_36 : decode cX12_ruleOf 36 = .ok (.iload 4, 2) := by decide +kernel
theorem dX12_ruleOf_38 : decode cX12_ruleOf 38 = .ok (.ifCond .ge 9, 3) := by decide +kernel
theorem dX12_ruleOf_41 : decode cX12_ruleOf 41 = .ok (.iload 4, 2) := by decide +kernel
theorem dX12_ruleOf_43 : decode cX12_ruleOf 43 = .ok (.ineg, 1) := by decide +kernel
theorem dX12_ruleOf_44 : decode cX12_ruleOf 44 = .ok (.goto 5, 3) := by decide +kernel
theorem dX12_ruleOf_47 : decode cX12_ruleOf 47 = .ok (.iload 4, 2) := by decide +kernel
theorem dX12_ruleOf_49 : decode cX12_ruleOf 49 = .ok (.iastore, 1) := by decide +kernel
theorem dX12_ruleOf_50 : decode cX12_ruleOf 50 = .ok (.aload_n 0, 1) := by decide +kernel
theorem dX12_ruleOf_51 : decode cX12_ruleOf 51 = .ok (.getfield 72, 3) := by decide +kernel
theorem dX12_ruleOf_54 : decode cX12_ruleOf 54 = .ok (.iconst 2, 1) := by decide +kernel
theorem dX12_ruleOf_55 : decode cX12_ruleOf 55 = .ok (.aload_n 0, 1) := by decide +kernel
theorem dX12_ruleOf_56 : decode cX12_ruleOf 56 = .ok (.iload_n 1, 1) := by decide +kernel
theorem dX12_ruleOf_57 : decode cX12_ruleOf 57 = .ok (.invokevirtual 433, 3) := by decide +kernel
theorem dX12_ruleOf_60 : decode cX12_ruleOf 60 = .ok (.iastore, 1) := by decide +kernel
theorem dX12_ruleOf_61 : decode cX12_ruleOf 61 = .ok (.aload_n 0, 1) := by decide +kernel
theorem dX12_ruleOf_62 : decode cX12_ruleOf 62 = .ok (.getfield 72, 3) := by decide +kernel
theorem dX12_ruleOf_65 : decode cX12_ruleOf 65 = .ok (.iconst 3, 1) := by decide +kernel
theorem dX12_ruleOf_66 : decode cX12_ruleOf 66 = .ok (.iload 5, 2) := by decide +kernel
theorem dX12_ruleOf_68 : decode cX12_ruleOf 68 = .ok (.invokestatic 442, 3) := by decide +kernel
theorem dX12_ruleOf_71 : decode cX12_ruleOf 71 = .ok (.iastore, 1) := by decide +kernel
theorem dX12_ruleOf_72 : decode cX12_ruleOf 72 = .ok (.aload_n 0, 1) := by decide +kernel
theorem dX12_ruleOf_73 : decode cX12_ruleOf 73 = .ok (.getfield 72, 3) := by decide +kernel
theorem dX12_ruleOf_76 : decode cX12_ruleOf 76 = .ok (.iconst 4, 1) := by decide +kernel
theorem dX12_ruleOf_77 : decode cX12_ruleOf 77 = .ok (.aload_n 0, 1) := by decide +kernel
theorem dX12_ruleOf_78 : decode cX12_ruleOf 78 = .ok (.getfield 153, 3) := by decide +kernel
theorem dX12_ruleOf_81 : decode cX12_ruleOf 81 = .ok (.iload_n 1, 1) := by decide +kernel
theorem dX12_ruleOf_82 : decode cX12_ruleOf 82 = .ok (.iaload, 1) := by decide +kernel
theorem dX12_ruleOf_83 : decode cX12_ruleOf 83 = .ok (.ifCond .eq 15, 3) := by decide +kernel
theorem dX12_ruleOf_86 : decode cX12_ruleOf 86 = .ok (.aload_n 0, 1) := by decide +kernel
theorem dX12_ruleOf_87 : decode cX12_ruleOf 87 = .ok (.getfield 153, 3) := by decide +kernel
theorem dX12_ruleOf_90 : decode cX12_ruleOf 90 = .ok (.iload_n 1, 1) := by decide +kernel
theorem dX12_ruleOf_91 : decode cX12_ruleOf 91 = .ok (.iaload, 1) := by decide +kernel
theorem dX12_ruleOf_92 : decode cX12_ruleOf 92 = .ok (.iload 4, 2) := by decide +kernel
theorem dX12_ruleOf_94 : decode cX12_ruleOf 94 = .ok (.imul, 1) := by decide +kernel
theorem dX12_ruleOf_95 : decode cX12_ruleOf 95 = .ok (.ifCond .gt 7, 3) := by decide +kernel
theorem dX12_ruleOf_98 : decode cX12_ruleOf 98 = .ok (.iconst 1, 1) := by decide +kernel
theorem dX12_ruleOf_99 : decode cX12_ruleOf 99 = .ok (.goto 4, 3) := by decide +kernel
theorem dX12_ruleOf_102 : decode cX12_ruleOf 102 = .ok (.iconst 0, 1) := by decide +kernel
theorem dX12_ruleOf_103 : decode cX12_ruleOf 103 = .ok (.iastore, 1) := by decide +kernel
theorem dX12_ruleOf_104 : decode cX12_ruleOf 104 = .ok (.aload_n 0, 1) := by decide +kernel
theorem dX12_ruleOf_105 : decode cX12_ruleOf 105 = .ok (.getfield 72, 3) := by decide +kernel
theorem dX12_ruleOf_108 : decode cX12_ruleOf 108 = .ok (.iconst 5, 1) := by decide +kernel
theorem dX12_ruleOf_109 : decode cX12_ruleOf 109 = .ok (.iload 5, 2) := by decide +kernel
theorem dX12_ruleOf_111 : decode cX12_ruleOf 111 = .ok (.ifCond .ne 7, 3) := by decide +kernel
theorem dX12_ruleOf_114 : decode cX12_ruleOf 114 = .ok (.iconst 1, 1) := by decide +kernel
theorem dX12_ruleOf_115 : decode cX12_ruleOf 115 = .ok (.goto 4, 3) := by decide +kernel
theorem dX12_ruleOf_118 : decode cX12_ruleOf 118 = .ok (.iconst 0, 1) := by decide +kernel
theorem dX12_ruleOf_119 : decode cX12_ruleOf 119 = .ok (.iastore, 1) := by decide +kernel
theorem dX12_ruleOf_120 : decode cX12_ruleOf 120 = .ok (.aload_n 0, 1) := by decide +kernel
theorem dX12_ruleOf_121 : decode cX12_ruleOf 121 = .ok (.getfield 72, 3) := by decide +kernel
theorem dX12_ruleOf_124 : decode cX12_ruleOf 124 = .ok (.bipush 6, 2) := by decide +kernel
theorem dX12_ruleOf_126 : decode cX12_ruleOf 126 = .ok (.aload_n 0, 1) := by decide +kernel
theorem dX12_ruleOf_127 : decode cX12_ruleOf 127 = .ok (.getfield 150, 3) := by decide +kernel
theorem dX12_ruleOf_130 : decode cX12_ruleOf 130 = .ok (.iload_n 1, 1) := by decide +kernel
theorem dX12_ruleOf_131 : decode cX12_ruleOf 131 = .ok (.iaload, 1) := by decide +kernel
theorem dX12_ruleOf_132 : decode cX12_ruleOf 132 = .ok (.iastore, 1) := by decide +kernel
theorem dX12_ruleOf_133 : decode cX12_ruleOf 133 = .ok (.aload_n 0, 1) := by decide +kernel
theorem dX12_ruleOf_134 : decode cX12_ruleOf 134 = .ok (.getfield 72, 3) := by decide +kernel
theorem dX12_ruleOf_137 : decode cX12_ruleOf 137 = .ok (.bipush 7, 2) := by decide +kernel
theorem dX12_ruleOf_139 : decode cX12_ruleOf 139 = .ok (.aload_n 0, 1) := by decide +kernel
theorem dX12_ruleOf_140 : decode cX12_ruleOf 140 = .ok (.getfield 123, 3) := by decide +kernel
theorem dX12_ruleOf_143 : decode cX12_ruleOf 143 = .ok (.iload_n 2, 1) := by decide +kernel
theorem dX12_ruleOf_144 : decode cX12_ruleOf 144 = .ok (.iaload, 1) := by decide +kernel
theorem dX12_ruleOf_145 : decode cX12_ruleOf 145 = .ok (.iastore, 1) := by decide +kernel
theorem dX12_ruleOf_146 : decode cX12_ruleOf 146 = .ok (.aload_n 0, 1) := by decide +kernel
theorem dX12_ruleOf_147 : decode cX12_ruleOf 147 = .ok (.getfield 72, 3) := by decide +kernel
theorem dX12_ruleOf_150 : decode cX12_ruleOf 150 = .ok (.bipush 8, 2) := by decide +kernel
theorem dX12_ruleOf_152 : decode cX12_ruleOf 152 = .ok (.aload_n 0, 1) := by decide +kernel
theorem dX12_ruleOf_153 : decode cX12_ruleOf 153 = .ok (.getfield 126, 3) := by decide +kernel
theorem dX12_ruleOf_156 : decode cX12_ruleOf 156 = .ok (.iload_n 2, 1) := by decide +kernel
theorem dX12_ruleOf_157 : decode cX12_ruleOf 157 = .ok (.iaload, 1) := by decide +kernel
theorem dX12_ruleOf_158 : decode cX12_ruleOf 158 = .ok (.iastore, 1) := by decide +kernel
theorem dX12_ruleOf_159 : decode cX12_ruleOf 159 = .ok (.aload_n 0, 1) := by decide +kernel
theorem dX12_ruleOf_160 : decode cX12_ruleOf 160 = .ok (.getfield 72, 3) := by decide +kernel
theorem dX12_ruleOf_163 : decode cX12_ruleOf 163 = .ok (.bipush 9, 2) := by decide +kernel
theorem dX12_ruleOf_165 : decode cX12_ruleOf 165 = .ok (.iload_n 1, 1) := by decide +kernel
theorem dX12_ruleOf_166 : decode cX12_ruleOf 166 = .ok (.iastore, 1) := by decide +kernel
theorem dX12_ruleOf_167 : decode cX12_ruleOf 167 = .ok (.aload_n 0, 1) := by decide +kernel
theorem dX12_ruleOf_168 : decode cX12_ruleOf 168 = .ok (.getfield 72, 3) := by decide +kernel
theorem dX12_ruleOf_171 : decode cX12_ruleOf 171 = .ok (.bipush 10, 2) := by decide +kernel
theorem dX12_ruleOf_173 : decode cX12_ruleOf 173 = .ok (.iload_n 3, 1) := by decide +kernel
theorem dX12_ruleOf_174 : decode cX12_ruleOf 174 = .ok (.iastore, 1) := by decide +kernel
theorem dX12_ruleOf_175 : decode cX12_ruleOf 175 = .ok (.aload_n 0, 1) := by decide +kernel
theorem dX12_ruleOf_176 : decode cX12_ruleOf 176 = .ok (.bipush 25, 2) := by decide +kernel
theorem dX12_ruleOf_178 : decode cX12_ruleOf 178 = .ok (.invokevirtual 357, 3) := by decide +kernel
theorem dX12_ruleOf_181 : decode cX12_ruleOf 181 = .ok (.ireturn, 1) := by decide +kernel
def F_X12_ruleOf_b119 (N : Nat) (x1 : Int32) (x2 : Int32) (x3 : Int32) (s0 : Int32) (s1 : Int32) (h : PH) : Option (Int32 × PH) :=
  if inb s1 60 = true then
  hb (hs h 123 s1.toNatClampNeg s0) fun h2 =>
  if inb x1 2 = true then
  if inb (6 : Int32) 60 = true then
  hb (hs h2 123 (6 : Int32).toNatClampNeg (h2.1 145 x1.toNatClampNeg)) fun h5 =>
  if inb x2 24 = true then
  if inb (7 : Int32) 60 = true then
  hb (hs h5 123 (7 : Int32).toNatClampNeg (h5.1 137 x2.toNatClampNeg)) fun h8 =>
  if inb (8 : Int32) 60 = true then
  hb (hs h8 123 (8 : Int32).toNatClampNeg (h8.1 138 x2.toNatClampNeg)) fun h10 =>
  if inb (9 : Int32) 60 = true then
  hb (hs h10 123 (9 : Int32).toNatClampNeg x1) fun h12 =>
  if inb (10 : Int32) 60 = true then
  hb (hs h12 123 (10 : Int32).toNatClampNeg x3) fun h14 =>
  bI (F_X12_worth N (25 : Int32) h14) fun r15 h16 =>
  some (r15, h16)
  else none
  else none
  else none
  else none
  else none
  else none
  else none
  else none
set_option maxRecDepth 20000 in
set_option maxHeartbeats 4000000 in
theorem T_X12_ruleOf_b119 {X : CT} (C : CX X 154 cX12_ruleOf 6 RX12 (some .int) 3 69) {r0 : Int32} {h0 : PH} {N : Nat} : ∀ (x1 : Int32) (x2 : Int32) (x3 : Int32) (s0 : Int32) (s1 : Int32) (h : PH), F_X12_ruleOf_b119 N x1 x2 x3 s0 s1 h = some (r0, h0) → V X (QI X r0 h0) h 119 [some (.ref 103), some (.int x1), some (.int x2), some (.int x3), none, none] [.int s0, .int s1, .ref 123] := by
  intro x1 x2 x3 s0 s1 h hyp
  unfold F_X12_ruleOf_b119 at hyp
  obtain ⟨g1, hyp⟩ := gd_n hyp
  obtain ⟨h2, eh2, hyp⟩ := hb_n hyp
  refine V_iast (pc := 119) C dX12_ruleOf_119 ak_123 g1 eh2 ?_
  refine V_aload_n (pc := 120) C dX12_ruleOf_120 rfl ?_
  refine V_getR (pc := 121) C dX12_ruleOf_121 lf_X12_72 fk_103_32 ?_
  refine V_bipush (pc := 124) C dX12_ruleOf_124 (v := 6) (by decide) ?_
  refine V_aload_n (pc := 126) C dX12_ruleOf_126 rfl ?_
  refine V_getR (pc := 127) C dX12_ruleOf_127 lf_X12_150 fk_103_69 ?_
  refine V_iload_n (pc := 130) C dX12_ruleOf_130 rfl ?_
  obtain ⟨g3, hyp⟩ := gd_n hyp
  refine V_iald (pc := 131) C dX12_ruleOf_131 ak_145 g3 ?_
  obtain ⟨g4, hyp⟩ := gd_n hyp
  obtain ⟨h5, eh5, hyp⟩ := hb_n hyp
  refine V_iast (pc := 132) C dX12_ruleOf_132 ak_123 g4 eh5 ?_
  refine V_aload_n (pc := 133) C dX12_ruleOf_133 rfl ?_
  refine V_getR (pc := 134) C dX12_ruleOf_134 lf_X12_72 fk_103_32 ?_
  refine V_bipush (pc := 137) C dX12_ruleOf_137 (v := 7) (by decide) ?_
  refine V_aload_n (pc := 139) C dX12_ruleOf_139 rfl ?_
  refine V_getR (pc := 140) C dX12_ruleOf_140 lf_X12_123 fk_103_59 ?_
  refine V_iload_n (pc := 143) C dX12_ruleOf_143 rfl ?_
  obtain ⟨g6, hyp⟩ := gd_n hyp
  refine V_iald (pc := 144) C dX12_ruleOf_144 ak_137 g6 ?_
  obtain ⟨g7, hyp⟩ := gd_n hyp
  obtain ⟨h8, eh8, hyp⟩ := hb_n hyp
  refine V_iast (pc := 145) C dX12_ruleOf_145 ak_123 g7 eh8 ?_
  refine V_aload_n (pc := 146) C dX12_ruleOf_146 rfl ?_
  refine V_getR (pc := 147) C dX12_ruleOf_147 lf_X12_72 fk_103_32 ?_
  refine V_bipush (pc := 150) C dX12_ruleOf_150 (v := 8) (by decide) ?_
  refine V_aload_n (pc := 152) C dX12_ruleOf_152 rfl ?_
  refine V_getR (pc := 153) C dX12_ruleOf_153 lf_X12_126 fk_103_60 ?_
  refine V_iload_n (pc := 156) C dX12_ruleOf_156 rfl ?_
  refine V_iald (pc := 157) C dX12_ruleOf_157 ak_138 g6 ?_
  obtain ⟨g9, hyp⟩ := gd_n hyp
  obtain ⟨h10, eh10, hyp⟩ := hb_n hyp
  refine V_iast (pc := 158) C dX12_ruleOf_158 ak_123 g9 eh10 ?_
  refine V_aload_n (pc := 159) C dX12_ruleOf_159 rfl ?_
  refine V_getR (pc := 160) C dX12_ruleOf_160 lf_X12_72 fk_103_32 ?_
  refine V_bipush (pc := 163) C dX12_ruleOf_163 (v := 9) (by decide) ?_
  refine V_iload_n (pc := 165) C dX12_ruleOf_165 rfl ?_
  obtain ⟨g11, hyp⟩ := gd_n hyp
  obtain ⟨h12, eh12, hyp⟩ := hb_n hyp
  refine V_iast (pc := 166) C dX12_ruleOf_166 ak_123 g11 eh12 ?_
  refine V_aload_n (pc := 167) C dX12_ruleOf_167 rfl ?_
  refine V_getR (pc := 168) C dX12_ruleOf_168 lf_X12_72 fk_103_32 ?_
  refine V_bipush (pc := 171) C dX12_ruleOf_171 (v := 10) (by decide) ?_
  refine V_iload_n (pc := 173) C dX12_ruleOf_173 rfl ?_
  obtain ⟨g13, hyp⟩ := gd_n hyp
  obtain ⟨h14, eh14, hyp⟩ := hb_n hyp
  refine V_iast (pc := 174) C dX12_ruleOf_174 ak_123 g13 eh14 ?_
  refine V_aload_n (pc := 175) C dX12_ruleOf_175 rfl ?_
  refine V_bipush (pc := 176) C dX12_ruleOf_176 (v := 25) (by decide) ?_
  obtain ⟨r15, h16, eh16, hyp⟩ := bI_n hyp
  refine V_callI (pc := 178) C dX12_ruleOf_178 lm_X12_357 mk_X12_worth ok_103 rfl (M_X12_worth _ eh16) rfl pd_X12_worth (by decide) (by decide) (by decide) (As := [.int (25 : Int32)]) (rest := []) rfl (Nat.le_of_ble_eq_true rfl) ?_
  cases hyp
  exact V_iret C dX12_ruleOf_181
def F_X12_ruleOf_b103 (N : Nat) (x1 : Int32) (x2 : Int32) (x3 : Int32) (x5 : Int32) (s0 : Int32) (s1 : Int32) (h : PH) : Option (Int32 × PH) :=
  if inb s1 60 = true then
  hb (hs h 123 s1.toNatClampNeg s0) fun h2 =>
  if x5 = 0 then
    F_X12_ruleOf_b119 N x1 x2 x3 (1 : Int32) (5 : Int32) h2
  else
    F_X12_ruleOf_b119 N x1 x2 x3 (0 : Int32) (5 : Int32) h2
  else none
set_option maxRecDepth 20000 in
set_option maxHeartbeats 4000000 in
theorem T_X12_ruleOf_b103 {X : CT} (C : CX X 154 cX12_ruleOf 6 RX12 (some .int) 3 69) {r0 : Int32} {h0 : PH} {N : Nat} : ∀ (x1 : Int32) (x2 : Int32) (x3 : Int32) (x5 : Int32) (s0 : Int32) (s1 : Int32) (h : PH), F_X12_ruleOf_b103 N x1 x2 x3 x5 s0 s1 h = some (r0, h0) → V X (QI X r0 h0) h 103 [some (.ref 103), some (.int x1), some (.int x2), some (.int x3), none, some (.int x5)] [.int s0, .int s1, .ref 123] := by
  intro x1 x2 x3 x5 s0 s1 h hyp
  unfold F_X12_ruleOf_b103 at hyp
  obtain ⟨g1, hyp⟩ := gd_n hyp
  obtain ⟨h2, eh2, hyp⟩ := hb_n hyp
  refine V_iast (pc := 103) C dX12_ruleOf_103 ak_123 g1 eh2 ?_
  refine V_aload_n (pc := 104) C dX12_ruleOf_104 rfl ?_
  refine V_getR (pc := 105) C dX12_ruleOf_105 lf_X12_72 fk_103_32 ?_
  refine V_iconst (pc := 108) C dX12_ruleOf_108 (v := 5) (by decide) ?_
  refine V_iload (pc := 109) C dX12_ruleOf_109 rfl ?_
  refine V_if_ne (pc := 111) C dX12_ruleOf_111 (tgt := 118) (by decide) (fun q3 => ?_) (fun q3 => ?_)
  · replace hyp := (if_neg q3).symm.trans hyp
    refine V_iconst (pc := 118) C dX12_ruleOf_118 (v := 0) (by decide) ?_
    refine V_weak (lv' := [some (.ref 103), some (.int x1), some (.int x2), some (.int x3), none, none]) (lvle_s (lvle_s (lvle_s (lvle_s (lvle_n (lvle_n lvle_0)))))) ?_
    exact (T_X12_ruleOf_b119 C) x1 x2 x3 (0 : Int32) (5 : Int32) h2 hyp
  · replace hyp := (if_pos q3).symm.trans hyp
    refine V_iconst (pc := 114) C dX12_ruleOf_114 (v := 1) (by decide) ?_
    refine V_goto (pc := 115) C dX12_ruleOf_115 (tgt := 119) (by decide) ?_
    refine V_weak (lv' := [some (.ref 103), some (.int x1), some (.int x2), some (.int x3), none, none]) (lvle_s (lvle_s (lvle_s (lvle_s (lvle_n (lvle_n lvle_0)))))) ?_
    exact (T_X12_ruleOf_b119 C) x1 x2 x3 (1 : Int32) (5 : Int32) h2 hyp
def F_X12_ruleOf_b98 (N : Nat) (x1 : Int32) (x2 : Int32) (x3 : Int32) (x5 : Int32) (s0 : Int32) (h : PH) : Option (Int32 × PH) :=
  F_X12_ruleOf_b103 N x1 x2 x3 x5 (1 : Int32) s0 h
set_option maxRecDepth 20000 in
set_option maxHeartbeats 4000000 in
theorem T_X12_ruleOf_b98 {X : CT} (C : CX X 154 cX12_ruleOf 6 RX12 (some .int) 3 69) {r0 : Int32} {h0 : PH} {N : Nat} : ∀ (x1 : Int32) (x2 : Int32) (x3 : Int32) (x5 : Int32) (s0 : Int32) (h : PH), F_X12_ruleOf_b98 N x1 x2 x3 x5 s0 h = some (r0, h0) → V X (QI X r0 h0) h 98 [some (.ref 103), some (.int x1), some (.int x2), some (.int x3), none, some (.int x5)] [.int s0, .ref 123] := by
  intro x1 x2 x3 x5 s0 h hyp
  unfold F_X12_ruleOf_b98 at hyp
  refine V_iconst (pc := 98) C dX12_ruleOf_98 (v := 1) (by decide) ?_
  refine V_goto (pc := 99) C dX12_ruleOf_99 (tgt := 103) (by decide) ?_
  refine V_weak (lv' := [some (.ref 103), some (.int x1), some (.int x2), some (.int x3), none, some (.int x5)]) (lvle_s (lvle_s (lvle_s (lvle_s (lvle_n (lvle_s lvle_0)))))) ?_
  exact (T_X12_ruleOf_b103 C) x1 x2 x3 x5 (1 : Int32) s0 h hyp
def F_X12_ruleOf_b49 (N : Nat) (x1 : Int32) (x2 : Int32) (x3 : Int32) (x4 : Int32) (x5 : Int32) (s0 : Int32) (s1 : Int32) (h : PH) : Option (Int32 × PH) :=
  if inb s1 60 = true then
  hb (hs h 123 s1.toNatClampNeg s0) fun h2 =>
  bI (F_X12_loadOf N x1 h2) fun r3 h4 =>
  if inb (2 : Int32) 60 = true then
  hb (hs h4 123 (2 : Int32).toNatClampNeg r3) fun h6 =>
  bI (F_X12_bits N x5 h6) fun r7 h8 =>
  if inb (3 : Int32) 60 = true then
  hb (hs h8 123 (3 : Int32).toNatClampNeg r7) fun h10 =>
  if inb x1 2 = true then
  if (h10.1 146 x1.toNatClampNeg) = 0 then
    F_X12_ruleOf_b98 N x1 x2 x3 x5 (4 : Int32) h10
  else
    if inb x1 2 = true then
    if 0 < ((h10.1 146 x1.toNatClampNeg) * x4) then
      F_X12_ruleOf_b103 N x1 x2 x3 x5 (0 : Int32) (4 : Int32) h10
    else
      F_X12_ruleOf_b98 N x1 x2 x3 x5 (4 : Int32) h10
    else none
  else none
  else none
  else none
  else none
set_option maxRecDepth 20000 in
set_option maxHeartbeats 4000000 in
theorem T_X12_ruleOf_b49 {X : CT} (C : CX X 154 cX12_ruleOf 6 RX12 (some .int) 3 69) {r0 : Int32} {h0 : PH} {N : Nat} : ∀ (x1 : Int32) (x2 : Int32) (x3 : Int32) (x4 : Int32) (x5 : Int32) (s0 : Int32) (s1 : Int32) (h : PH), F_X12_ruleOf_b49 N x1 x2 x3 x4 x5 s0 s1 h = some (r0, h0) → V X (QI X r0 h0) h 49 [some (.ref 103), some (.int x1), some (.int x2), some (.int x3), some (.int x4), some (.int x5)] [.int s0, .int s1, .ref 123] := by
  intro x1 x2 x3 x4 x5 s0 s1 h hyp
  unfold F_X12_ruleOf_b49 at hyp
  obtain ⟨g1, hyp⟩ := gd_n hyp
  obtain ⟨h2, eh2, hyp⟩ := hb_n hyp
  refine V_iast (pc := 49) C dX12_ruleOf_49 ak_123 g1 eh2 ?_
  refine V_aload_n (pc := 50) C dX12_ruleOf_50 rfl ?_
  refine V_getR (pc := 51) C dX12_ruleOf_51 lf_X12_72 fk_103_32 ?_
  refine V_iconst (pc := 54) C dX12_ruleOf_54 (v := 2) (by decide) ?_
  refine V_aload_n (pc := 55) C dX12_ruleOf_55 rfl ?_
  refine V_iload_n (pc := 56) C dX12_ruleOf_56 rfl ?_
  obtain ⟨r3, h4, eh4, hyp⟩ := bI_n hyp
  refine V_callI (pc := 57) C dX12_ruleOf_57 lm_X12_433 mk_X12_loadOf ok_103 rfl (M_X12_loadOf _ eh4) rfl pd_X12_loadOf (by decide) (by decide) (by decide) (As := [.int x1]) (rest := [.int (2 : Int32), .ref 123]) rfl (Nat.le_of_ble_eq_true rfl) ?_
  obtain ⟨g5, hyp⟩ := gd_n hyp
  obtain ⟨h6, eh6, hyp⟩ := hb_n hyp
  refine V_iast (pc := 60) C dX12_ruleOf_60 ak_123 g5 eh6 ?_
  refine V_aload_n (pc := 61) C dX12_ruleOf_61 rfl ?_
  refine V_getR (pc := 62) C dX12_ruleOf_62 lf_X12_72 fk_103_32 ?_
  refine V_iconst (pc := 65) C dX12_ruleOf_65 (v := 3) (by decide) ?_
  refine V_iload (pc := 66) C dX12_ruleOf_66 rfl ?_
  obtain ⟨r7, h8, eh8, hyp⟩ := bI_n hyp
  refine V_statI (pc := 68) C dX12_ruleOf_68 lm_X12_442 ms_X12_bits (M_X12_bits _ eh8) rfl pd_X12_bits (by decide) (by decide) (by decide) (As := [.int x5]) (rest := [.int (3 : Int32), .ref 123]) rfl (Nat.le_of_ble_eq_true rfl) ?_
  obtain ⟨g9, hyp⟩ := gd_n hyp
  obtain ⟨h10, eh10, hyp⟩ := hb_n hyp
  refine V_iast (pc := 71) C dX12_ruleOf_71 ak_123 g9 eh10 ?_
  refine V_aload_n (pc := 72) C dX12_ruleOf_72 rfl ?_
  refine V_getR (pc := 73) C dX12_ruleOf_73 lf_X12_72 fk_103_32 ?_
  refine V_iconst (pc := 76) C dX12_ruleOf_76 (v := 4) (by decide) ?_
  refine V_aload_n (pc := 77) C dX12_ruleOf_77 rfl ?_
  refine V_getR (pc := 78) C dX12_ruleOf_78 lf_X12_153 fk_103_70 ?_
  refine V_iload_n (pc := 81) C dX12_ruleOf_81 rfl ?_
  obtain ⟨g11, hyp⟩ := gd_n hyp
  refine V_iald (pc := 82) C dX12_ruleOf_82 ak_146 g11 ?_
  refine V_if_eq (pc := 83) C dX12_ruleOf_83 (tgt := 98) (by decide) (fun q12 => ?_) (fun q12 => ?_)
  · replace hyp := (if_pos q12).symm.trans hyp
    refine V_weak (lv' := [some (.ref 103), some (.int x1), some (.int x2), some (.int x3), none, some (.int x5)]) (lvle_s (lvle_s (lvle_s (lvle_s (lvle_n (lvle_s lvle_0)))))) ?_
    exact (T_X12_ruleOf_b98 C) x1 x2 x3 x5 (4 : Int32) h10 hyp
  · replace hyp := (if_neg q12).symm.trans hyp
    refine V_aload_n (pc := 86) C dX12_ruleOf_86 rfl ?_
    refine V_getR (pc := 87) C dX12_ruleOf_87 lf_X12_153 fk_103_70 ?_
    refine V_iload_n (pc := 90) C dX12_ruleOf_90 rfl ?_
    obtain ⟨g13, hyp⟩ := gd_n hyp
    refine V_iald (pc := 91) C dX12_ruleOf_91 ak_146 g13 ?_
    refine V_iload (pc := 92) C dX12_ruleOf_92 rfl ?_
    refine V_imul (pc := 94) C dX12_ruleOf_94 ?_
    refine V_if_gt (pc := 95) C dX12_ruleOf_95 (tgt := 102) (by decide) (fun q14 => ?_) (fun q14 => ?_)
    · replace hyp := (if_pos q14).symm.trans hyp
      refine V_iconst (pc := 102) C dX12_ruleOf_102 (v := 0) (by decide) ?_
      refine V_weak (lv' := [some (.ref 103), some (.int x1), some (.int x2), some (.int x3), none, some (.int x5)]) (lvle_s (lvle_s (lvle_s (lvle_s (lvle_n (lvle_s lvle_0)))))) ?_
      exact (T_X12_ruleOf_b103 C) x1 x2 x3 x5 (0 : Int32) (4 : Int32) h10 hyp
    · replace hyp := (if_neg q14).symm.trans hyp
      refine V_weak (lv' := [some (.ref 103), some (.int x1), some (.int x2), some (.int x3), none, some (.int x5)]) (lvle_s (lvle_s (lvle_s (lvle_s (lvle_n (lvle_s lvle_0)))))) ?_
      exact (T_X12_ruleOf_b98 C) x1 x2 x3 x5 (4 : Int32) h10 hyp
def F_X12_ruleOf (N : Nat) (a1 : Int32) (a2 : Int32) (a3 : Int32) (h : PH) : Option (Int32 × PH) :=
  if (h.1 103 20) = 0 then
    some ((0 : Int32), h)
  else
    if inb a1 2 = true then
    if inb a2 24 = true then
    ib ((h.1 145 a1.toNatClampNeg) - (h.1 137 a2.toNatClampNeg)) fun v4 =>
    bI (F_X12_goalsOf N a1 h) fun r5 h6 =>
    if 0 ≤ v4 then
      F_X12_ruleOf_b49 N a1 a2 a3 v4 r5 v4 (1 : Int32) h6
    else
      F_X12_ruleOf_b49 N a1 a2 a3 v4 r5 (-v4) (1 : Int32) h6
    else none
    else none
set_option maxRecDepth 20000 in
set_option maxHeartbeats 4000000 in
theorem M_X12_ruleOf (E : EV) {N : Nat} {a1 : Int32} {a2 : Int32} {a3 : Int32} {r : Int32} {h h2 : PH} (hyp : F_X12_ruleOf N a1 a2 a3 h = some (r, h2)) : MI E 154 yX12_ruleOf cX12_ruleOf 6 (some .int) 3 69 [.ref 103, .int a1, .int a2, .int a3] h r h2 := by
  refine MI.of 2 (by decide) rfl (fun X e1 C => ?_)
  subst e1
  replace C : CX X 154 cX12_ruleOf 6 RX12 (some .int) 3 69 := C
  show V X _ h 0 [some (.ref 103), some (.int a1), some (.int a2), some (.int a3), none, none] []
  unfold F_X12_ruleOf at hyp
  refine V_aload_n (pc := 0) C dX12_ruleOf_0 rfl ?_
  refine V_getI (pc := 1) C dX12_ruleOf_1 lf_X12_187 fk_103_20 ?_
  refine V_if_ne (pc := 4) C dX12_ruleOf_4 (tgt := 9) (by decide) (fun q1 => ?_) (fun q1 => ?_)
  · replace hyp := (if_neg q1).symm.trans hyp
    refine V_aload_n (pc := 9) C dX12_ruleOf_9 rfl ?_
    refine V_getR (pc := 10) C dX12_ruleOf_10 lf_X12_150 fk_103_69 ?_
    refine V_iload_n (pc := 13) C dX12_ruleOf_13 rfl ?_
    obtain ⟨g2, hyp⟩ := gd_n hyp
    refine V_iald (pc := 14) C dX12_ruleOf_14 ak_145 g2 ?_
    refine V_aload_n (pc := 15) C dX12_ruleOf_15 rfl ?_
    refine V_getR (pc := 16) C dX12_ruleOf_16 lf_X12_123 fk_103_59 ?_
    refine V_iload_n (pc := 19) C dX12_ruleOf_19 rfl ?_
    obtain ⟨g3, hyp⟩ := gd_n hyp
    refine V_iald (pc := 20) C dX12_ruleOf_20 ak_137 g3 ?_
    refine V_isub (pc := 21) C dX12_ruleOf_21 ?_
    obtain ⟨v4, ev4, hyp⟩ := ib_n hyp
    refine V_topI ev4 ?_
    refine V_istore (pc := 22) C dX12_ruleOf_22 (by decide) rfl ?_
    refine V_aload_n (pc := 24) C dX12_ruleOf_24 rfl ?_
    refine V_iload_n (pc := 25) C dX12_ruleOf_25 rfl ?_
    obtain ⟨r5, h6, eh6, hyp⟩ := bI_n hyp
    refine V_callI (pc := 26) C dX12_ruleOf_26 lm_X12_439 mk_X12_goalsOf ok_103 rfl (M_X12_goalsOf _ eh6) rfl pd_X12_goalsOf (by decide) (by decide) (by decide) (As := [.int a1]) (rest := []) rfl (Nat.le_of_ble_eq_true rfl) ?_
    refine V_istore (pc := 29) C dX12_ruleOf_29 (by decide) rfl ?_
    refine V_aload_n (pc := 31) C dX12_ruleOf_31 rfl ?_
    refine V_getR (pc := 32) C dX12_ruleOf_32 lf_X12_72 fk_103_32 ?_
    refine V_iconst (pc := 35) C dX12_ruleOf_35 (v := 1) (by decide) ?_
    refine V_iload (pc := 36) C dX12_ruleOf_36 rfl ?_
    refine V_if_ge (pc := 38) C dX12_ruleOf_38 (tgt := 47) (by decide) (fun q7 => ?_) (fun q7 => ?_)
    · replace hyp := (if_pos q7).symm.trans hyp
      refine V_iload (pc := 47) C dX12_ruleOf_47 rfl ?_
      refine V_weak (lv' := [some (.ref 103), some (.int a1), some (.int a2), some (.int a3), some (.int v4), some (.int r5)]) (lvle_s (lvle_s (lvle_s (lvle_s (lvle_s (lvle_s lvle_0)))))) ?_
      exact (T_X12_ruleOf_b49 C) a1 a2 a3 v4 r5 v4 (1 : Int32) h6 hyp
    · replace hyp := (if_neg q7).symm.trans hyp
      refine V_iload (pc := 41) C dX12_ruleOf_41 rfl ?_
      refine V_ineg (pc := 43) C dX12_ruleOf_43 ?_
      refine V_goto (pc := 44) C dX12_ruleOf_44 (tgt := 49) (by decide) ?_
      refine V_weak (lv' := [some (.ref 103), some (.int a1), some (.int a2), some (.int a3), some (.int v4), some (.int r5)]) (lvle_s (lvle_s (lvle_s (lvle_s (lvle_s (lvle_s lvle_0)))))) ?_
      exact (T_X12_ruleOf_b49 C) a1 a2 a3 v4 r5 (-v4) (1 : Int32) h6 hyp
  · replace hyp := (if_pos q1).symm.trans hyp
    refine V_iconst (pc := 7) C dX12_ruleOf_7 (v := 0) (by decide) ?_
    cases hyp
    exact V_iret C dX12_ruleOf_8
theorem dX12_gives_0 : decode cX12_gives 0 = .ok (.iload_n 3, 1) := by decide +kernel
theorem dX12_gives_1 : decode cX12_gives 1 = .ok (.ifCond .ge 11, 3) := by decide +kernel
theorem dX12_gives_4 : decode cX12_gives 4 = .ok (.aload_n 0, 1) := by decide +kernel
theorem dX12_gives_5 : decode cX12_gives 5 = .ok (.getfield 111, 3) := by decide +kernel
theorem dX12_gives_8 : decode cX12_gives 8 = .ok (.iconst 1, 1) := by decide +kernel
theorem dX12_gives_9 : decode cX12_gives 9 = .ok (.if_icmp .ne 23, 3) := by decide +kernel
theorem dX12_gives_12 : decode cX12_gives 12 = .ok (.aload_n 0, 1) := by decide +kernel
theorem dX12_gives_13 : decode cX12_gives 13 = .ok (.getfield 141, 3) := by decide +kernel
theorem dX12_gives_16 : decode cX12_gives 16 = .ok (.iload_n 1, 1) := by decide +kernel
theorem dX12_gives_17 : decode cX12_gives 17 = .ok (.iload_n 3, 1) := by decide +kernel
theorem dX12_gives_18 : decode cX12_gives 18 = .ok (.ifCond .ge 7, 3) := by decide +kernel
theorem dX12_gives_21 : decode cX12_gives 21 = .ok (.iconst 0, 1) := by decide +kernel
theorem dX12_gives_22 : decode cX12_gives 22 = .ok (.goto 8, 3) := by decide +kernel
theorem dX12_gives_25 : decode cX12_gives 25 = .ok (.iload_n 3, 1) := by decide +kernel
theorem dX12_gives_26 : decode cX12_gives 26 = .ok (.iload_n 1, 1) := by decide +kernel
theorem dX12_gives_27 : decode cX12_gives 27 = .ok (.ishr, 1) := by decide +kernel
theorem dX12_gives_28 : decode cX12_gives 28 = .ok (.iconst 1, 1) := by decide +kernel
theorem dX12_gives_29 : decode cX12_gives 29 = .ok (.iand, 1) := by decide +kernel
theorem dX12_gives_30 : decode cX12_gives 30 = .ok (.iastore, 1) := by decide +kernel
theorem dX12_gives_31 : decode cX12_gives 31 = .ok (.return_, 1) := by decide +kernel
theorem dX12_gives_32 : decode cX12_gives 32 = .ok (.aload_n 0, 1) := by decide +kernel
theorem dX12_gives_33 : decode cX12_gives 33 = .ok (.iconst 0, 1) := by decide +kernel
theorem dX12_gives_34 : decode cX12_gives 34 = .ok (.iload_n 1, 1) := by decide +kernel
theorem dX12_gives_35 : decode cX12_gives 35 = .ok (.iload_n 2, 1) := by decide +kernel
theorem dX12_gives_36 : decode cX12_gives 36 = .ok (.invokevirtual 445, 3) := by decide +kernel
theorem dX12_gives_39 : decode cX12_gives 39 = .ok (.istore 4, 2) := by decide +kernel
theorem dX12_gives_41 : decode cX12_gives 41 = .ok (.aload_n 0, 1) := by decide +kernel
theorem dX12_gives_42 : decode cX12_gives 42 = .ok (.getfield 141, 3) := by decide +kernel
theorem dX12_gives_45 : decode cX12_gives 45 = .ok (.iload_n 1, 1) := by decide +kernel
theorem dX12_gives_46 : decode cX12_gives 46 = .ok (.aload_n 0, 1) := by decide +kernel
theorem dX12_gives_47 : decode cX12_gives 47 = .ok (.iconst 1, 1) := by decide +kernel
theorem dX12_gives_48 : decode cX12_gives 48 = .ok (.iload_n 1, 1) := by decide +kernel
theorem dX12_gives_49 : decode cX12_gives 49 = .ok (.iload_n 2, 1) := by decide +kernel
theorem dX12_gives_50 : decode cX12_gives 50 = .ok (.invokevirtual 445, 3) := by decide +kernel
theorem dX12_gives_53 : decode cX12_gives 53 = .ok (.iload 4, 2) := by decide +kernel
theorem dX12_gives_55 : decode cX12_gives 55 = .ok (.if_icmp .ge 7, 3) := by decide +kernel
theorem dX12_gives_58 : decode cX12_gives 58 = .ok (.iconst 1, 1) := by decide +kernel
theorem dX12_gives_59 : decode cX12_gives 59 = .ok (.goto 4, 3) := by decide +kernel
theorem dX12_gives_62 : decode cX12_gives 62 = .ok (.iconst 0, 1) := by decide +kernel
theorem dX12_gives_63 : decode cX12_gives 63 = .ok (.iastore, 1) := by decide +kernel
theorem dX12_gives_64 : decode cX12_gives 64 = .ok (.return_, 1) := by decide +kernel
def F_X12_gives_b30 (N : Nat) (s0 : Int32) (s1 : Int32) (h : PH) : Option PH :=
  if inb s1 24 = true then
  hb (hs h 142 s1.toNatClampNeg s0) fun h2 =>
  some h2
  else none
set_option maxRecDepth 20000 in
set_option maxHeartbeats 4000000 in
theorem T_X12_gives_b30 {X : CT} (C : CX X 154 cX12_gives 5 RX12 none 4 94) {h0 : PH} {N : Nat} : ∀ (s0 : Int32) (s1 : Int32) (h : PH), F_X12_gives_b30 N s0 s1 h = some h0 → V X (QV X h0) h 30 [none, none, none, none, none] [.int s0, .int s1, .ref 142] := by
  intro s0 s1 h hyp
  unfold F_X12_gives_b30 at hyp
  obtain ⟨g1, hyp⟩ := gd_n hyp
  obtain ⟨h2, eh2, hyp⟩ := hb_n hyp
  refine V_iast (pc := 30) C dX12_gives_30 ak_142 g1 eh2 ?_
  cases hyp
  exact V_vret C dX12_gives_31
def F_X12_gives_b12 (N : Nat) (x1 : Int32) (x3 : Int32) (h : PH) : Option PH :=
  if 0 ≤ x3 then
    F_X12_gives_b30 N ((x3 >>> (x1 &&& 31)) &&& (1 : Int32)) x1 h
  else
    F_X12_gives_b30 N (0 : Int32) x1 h
set_option maxRecDepth 20000 in
set_option maxHeartbeats 4000000 in
theorem T_X12_gives_b12 {X : CT} (C : CX X 154 cX12_gives 5 RX12 none 4 94) {h0 : PH} {N : Nat} : ∀ (x1 : Int32) (x3 : Int32) (h : PH), F_X12_gives_b12 N x1 x3 h = some h0 → V X (QV X h0) h 12 [some (.ref 103), some (.int x1), none, some (.int x3), none] [] := by
  intro x1 x3 h hyp
  unfold F_X12_gives_b12 at hyp
  refine V_aload_n (pc := 12) C dX12_gives_12 rfl ?_
  refine V_getR (pc := 13) C dX12_gives_13 lf_X12_141 fk_103_66 ?_
  refine V_iload_n (pc := 16) C dX12_gives_16 rfl ?_
  refine V_iload_n (pc := 17) C dX12_gives_17 rfl ?_
  refine V_if_ge (pc := 18) C dX12_gives_18 (tgt := 25) (by decide) (fun q1 => ?_) (fun q1 => ?_)
  · replace hyp := (if_pos q1).symm.trans hyp
    refine V_iload_n (pc := 25) C dX12_gives_25 rfl ?_
    refine V_iload_n (pc := 26) C dX12_gives_26 rfl ?_
    refine V_ishr (pc := 27) C dX12_gives_27 ?_
    refine V_iconst (pc := 28) C dX12_gives_28 (v := 1) (by decide) ?_
    refine V_iand (pc := 29) C dX12_gives_29 ?_
    refine V_weak (lv' := [none, none, none, none, none]) (lvle_n (lvle_n (lvle_n (lvle_n (lvle_n lvle_0))))) ?_
    exact (T_X12_gives_b30 C) ((x3 >>> (x1 &&& 31)) &&& (1 : Int32)) x1 h hyp
  · replace hyp := (if_neg q1).symm.trans hyp
    refine V_iconst (pc := 21) C dX12_gives_21 (v := 0) (by decide) ?_
    refine V_goto (pc := 22) C dX12_gives_22 (tgt := 30) (by decide) ?_
    refine V_weak (lv' := [none, none, none, none, none]) (lvle_n (lvle_n (lvle_n (lvle_n (lvle_n lvle_0))))) ?_
    exact (T_X12_gives_b30 C) (0 : Int32) x1 h hyp
def F_X12_gives_b63 (N : Nat) (s0 : Int32) (s1 : Int32) (h : PH) : Option PH :=
  if inb s1 24 = true then
  hb (hs h 142 s1.toNatClampNeg s0) fun h2 =>
  some h2
  else none
set_option maxRecDepth 20000 in
set_option maxHeartbeats 4000000 in
theorem T_X12_gives_b63 {X : CT} (C : CX X 154 cX12_gives 5 RX12 none 4 94) {h0 : PH} {N : Nat} : ∀ (s0 : Int32) (s1 : Int32) (h : PH), F_X12_gives_b63 N s0 s1 h = some h0 → V X (QV X h0) h 63 [none, none, none, none, none] [.int s0, .int s1, .ref 142] := by
  intro s0 s1 h hyp
  unfold F_X12_gives_b63 at hyp
  obtain ⟨g1, hyp⟩ := gd_n hyp
  obtain ⟨h2, eh2, hyp⟩ := hb_n hyp
  refine V_iast (pc := 63) C dX12_gives_63 ak_142 g1 eh2 ?_
  cases hyp
  exact V_vret C dX12_gives_64
def F_X12_gives (N : Nat) (a1 : Int32) (a2 : Int32) (a3 : Int32) (h : PH) : Option PH :=
  if 0 ≤ a3 then
    F_X12_gives_b12 N a1 a3 h
  else
    if (h.1 103 53) = (1 : Int32) then
      F_X12_gives_b12 N a1 a3 h
    else
      bI (F_X12_ruleOf N (0 : Int32) a1 a2 h) fun r3 h4 =>
      bI (F_X12_ruleOf N (1 : Int32) a1 a2 h4) fun r5 h6 =>
      if r3 ≤ r5 then
        F_X12_gives_b63 N (0 : Int32) a1 h6
      else
        F_X12_gives_b63 N (1 : Int32) a1 h6
set_option maxRecDepth 20000 in
set_option maxHeartbeats 4000000 in
theorem M_X12_gives (E : EV) {N : Nat} {a1 : Int32} {a2 : Int32} {a3 : Int32} {h h2 : PH} (hyp : F_X12_gives N a1 a2 a3 h = some h2) : MV E 154 yX12_gives cX12_gives 5 none 4 94 [.ref 103, .int a1, .int a2, .int a3] h h2 := by
  refine MV.of 1 (by decide) rfl (fun X e1 C => ?_)
  subst e1
  replace C : CX X 154 cX12_gives 5 RX12 none 4 94 := C
  show V X _ h 0 [some (.ref 103), some (.int a1), some (.int a2), some (.int a3), none] []
  unfold F_X12_gives at hyp
  refine V_iload_n (pc := 0) C dX12_gives_0 rfl ?_
  refine V_if_ge (pc := 1) C dX12_gives_1 (tgt := 12) (by decide) (fun q1 => ?_) (fun q1 => ?_)
  · replace hyp := (if_pos q1).symm.trans hyp
    refine V_weak (lv' := [some (.ref 103), some (.int a1), none, some (.int a3), none]) (lvle_s (lvle_s (lvle_n (lvle_s (lvle_n lvle_0))))) ?_
    exact (T_X12_gives_b12 C) a1 a3 h hyp
  · replace hyp := (if_neg q1).symm.trans hyp
    refine V_aload_n (pc := 4) C dX12_gives_4 rfl ?_
    refine V_getI (pc := 5) C dX12_gives_5 lf_X12_111 fk_103_53 ?_
    refine V_iconst (pc := 8) C dX12_gives_8 (v := 1) (by decide) ?_
    refine V_icmp_ne (pc := 9) C dX12_gives_9 (tgt := 32) (by decide) (fun q2 => ?_) (fun q2 => ?_)
    · replace hyp := (if_neg q2).symm.trans hyp
      refine V_aload_n (pc := 32) C dX12_gives_32 rfl ?_
      refine V_iconst (pc := 33) C dX12_gives_33 (v := 0) (by decide) ?_
      refine V_iload_n (pc := 34) C dX12_gives_34 rfl ?_
      refine V_iload_n (pc := 35) C dX12_gives_35 rfl ?_
      obtain ⟨r3, h4, eh4, hyp⟩ := bI_n hyp
      refine V_callI (pc := 36) C dX12_gives_36 lm_X12_445 mk_X12_ruleOf ok_103 rfl (M_X12_ruleOf _ eh4) rfl pd_X12_ruleOf (by decide) (by decide) (by decide) (As := [.int (0 : Int32), .int a1, .int a2]) (rest := []) rfl (Nat.le_of_ble_eq_true rfl) ?_
      refine V_istore (pc := 39) C dX12_gives_39 (by decide) rfl ?_
      refine V_aload_n (pc := 41) C dX12_gives_41 rfl ?_
      refine V_getR (pc := 42) C dX12_gives_42 lf_X12_141 fk_103_66 ?_
      refine V_iload_n (pc := 45) C dX12_gives_45 rfl ?_
      refine V_aload_n (pc := 46) C dX12_gives_46 rfl ?_
      refine V_iconst (pc := 47) C dX12_gives_47 (v := 1) (by decide) ?_
      refine V_iload_n (pc := 48) C dX12_gives_48 rfl ?_
      refine V_iload_n (pc := 49) C dX12_gives_49 rfl ?_
      obtain ⟨r5, h6, eh6, hyp⟩ := bI_n hyp
      refine V_callI (pc := 50) C dX12_gives_50 lm_X12_445 mk_X12_ruleOf ok_103 rfl (M_X12_ruleOf _ eh6) rfl pd_X12_ruleOf (by decide) (by decide) (by decide) (As := [.int (1 : Int32), .int a1, .int a2]) (rest := [.int a1, .ref 142]) rfl (Nat.le_of_ble_eq_true rfl) ?_
      refine V_iload (pc := 53) C dX12_gives_53 rfl ?_
      refine V_icmp_ge (pc := 55) C dX12_gives_55 (tgt := 62) (by decide) (fun q7 => ?_) (fun q7 => ?_)
      · replace hyp := (if_pos q7).symm.trans hyp
        refine V_iconst (pc := 62) C dX12_gives_62 (v := 0) (by decide) ?_
        refine V_weak (lv' := [none, none, none, none, none]) (lvle_n (lvle_n (lvle_n (lvle_n (lvle_n lvle_0))))) ?_
        exact (T_X12_gives_b63 C) (0 : Int32) a1 h6 hyp
      · replace hyp := (if_neg q7).symm.trans hyp
        refine V_iconst (pc := 58) C dX12_gives_58 (v := 1) (by decide) ?_
        refine V_goto (pc := 59) C dX12_gives_59 (tgt := 63) (by decide) ?_
        refine V_weak (lv' := [none, none, none, none, none]) (lvle_n (lvle_n (lvle_n (lvle_n (lvle_n lvle_0))))) ?_
        exact (T_X12_gives_b63 C) (1 : Int32) a1 h6 hyp
    · replace hyp := (if_pos q2).symm.trans hyp
      refine V_weak (lv' := [some (.ref 103), some (.int a1), none, some (.int a3), none]) (lvle_s (lvle_s (lvle_n (lvle_s (lvle_n lvle_0))))) ?_
      exact (T_X12_gives_b12 C) a1 a3 h hyp
theorem dX12_passes_0 : decode cX12_passes 0 = .ok (.iload_n 2, 1) := by decide +kernel
theorem dX12_passes_1 : decode cX12_passes 1 = .ok (.aload_n 0, 1) := by decide +kernel
theorem dX12_passes_2 : decode cX12_passes 2 = .ok (.getfield 150, 3) := by decide +kernel
theorem dX12_passes_5 : decode cX12_passes 5 = .ok (.iload_n 1, 1) := by decide +kernel
theorem dX12_passes_6 : decode cX12_passes 6 = .ok (.iaload, 1) := by decide +kernel
theorem dX12_passes_7 : decode cX12_passes 7 = .ok (.if_icmp .ge 7, 3) := by decide +kernel
theorem dX12_passes_10 : decode cX12_passes 10 = .ok (.iload_n 2, 1) := by decide +kernel
theorem dX12_passes_11 : decode cX12_passes 11 = .ok (.goto 9, 3) := by decide +kernel
theorem dX12_passes_14 : decode cX12_passes 14 = .ok (.aload_n 0, 1) := by decide +kernel
theorem dX12_passes_15 : decode cX12_passes 15 = .ok (.getfield 150, 3) := by decide +kernel
theorem dX12_passes_18 : decode cX12_passes 18 = .ok (.iload_n 1, 1) := by decide +kernel
theorem dX12_passes_19 : decode cX12_passes 19 = .ok (.iaload, 1) := by decide +kernel
theorem dX12_passes_20 : decode cX12_passes 20 = .ok (.istore_n 3, 1) := by decide +kernel
theorem dX12_passes_21 : decode cX12_passes 21 = .ok (.aload_n 0, 1) := by decide +kernel
theorem dX12_passes_22 : decode cX12_passes 22 = .ok (.getfield 159, 3) := by decide +kernel
theorem dX12_passes_25 : decode cX12_passes 25 = .ok (.iconst 5, 1) := by decide +kernel
theorem dX12_passes_26 : decode cX12_passes 26 = .ok (.iload_n 1, 1) := by decide +kernel
theorem dX12_passes_27 : decode cX12_passes 27 = .ok (.imul, 1) := by decide +kernel
theorem dX12_passes_28 : decode cX12_passes 28 = .ok (.iload_n 3, 1) := by decide +kernel
theorem dX12_passes_29 : decode cX12_passes 29 = .ok (.iadd, 1) := by decide +kernel
theorem dX12_passes_30 : decode cX12_passes 30 = .ok (.dup2, 1) := by decide +kernel
theorem dX12_passes_31 : decode cX12_passes 31 = .ok (.iaload, 1) := by decide +kernel
theorem dX12_passes_32 : decode cX12_passes 32 = .ok (.iconst 1, 1) := by decide +kernel
theorem dX12_passes_33 : decode cX12_passes 33 = .ok (.iadd, 1) := by decide +kernel
theorem dX12_passes_34 : decode cX12_passes 34 = .ok (.iastore, 1) := by decide +kernel
theorem dX12_passes_35 : decode cX12_passes 35 = .ok (.aload_n 0, 1) := by decide +kernel
theorem dX12_passes_36 : decode cX12_passes 36 = .ok (.getfield 150, 3) := by decide +kernel
theorem dX12_passes_39 : decode cX12_passes 39 = .ok (.iload_n 1, 1) := by decide +kernel
theorem dX12_passes_40 : decode cX12_passes 40 = .ok (.iload_n 2, 1) := by decide +kernel
theorem dX12_passes_41 : decode cX12_passes 41 = .ok (.iastore, 1) := by decide +kernel
theorem dX12_passes_42 : decode cX12_passes 42 = .ok (.return_, 1) := by decide +kernel
def F_X12_passes_b20 (x1 : Int32) (x2 : Int32) (s0 : Int32) (h : PH) : Option PH :=
  ib (((5 : Int32) * x1) + s0) fun v1 =>
  if inb v1 10 = true then
  hb (hs h 148 v1.toNatClampNeg ((h.1 148 v1.toNatClampNeg) + (1 : Int32))) fun h3 =>
  if inb x1 2 = true then
  hb (hs h3 145 x1.toNatClampNeg x2) fun h5 =>
  some h5
  else none
  else none
set_option maxRecDepth 20000 in
set_option maxHeartbeats 4000000 in
theorem T_X12_passes_b20 {X : CT} (C : CX X 154 cX12_passes 4 RX12 none 0 0) {h0 : PH} : ∀ (x1 : Int32) (x2 : Int32) (s0 : Int32) (h : PH), F_X12_passes_b20 x1 x2 s0 h = some h0 → V X (QV X h0) h 20 [some (.ref 103), some (.int x1), some (.int x2), none] [.int s0] := by
  intro x1 x2 s0 h hyp
  unfold F_X12_passes_b20 at hyp
  refine V_istore_n (pc := 20) C dX12_passes_20 (by decide) rfl ?_
  refine V_aload_n (pc := 21) C dX12_passes_21 rfl ?_
  refine V_getR (pc := 22) C dX12_passes_22 lf_X12_159 fk_103_72 ?_
  refine V_iconst (pc := 25) C dX12_passes_25 (v := 5) (by decide) ?_
  refine V_iload_n (pc := 26) C dX12_passes_26 rfl ?_
  refine V_imul (pc := 27) C dX12_passes_27 ?_
  refine V_iload_n (pc := 28) C dX12_passes_28 rfl ?_
  refine V_iadd (pc := 29) C dX12_passes_29 ?_
  obtain ⟨v1, ev1, hyp⟩ := ib_n hyp
  refine V_topI ev1 ?_
  refine V_dup2 (pc := 30) C dX12_passes_30 rfl rfl ?_
  obtain ⟨g2, hyp⟩ := gd_n hyp
  refine V_iald (pc := 31) C dX12_passes_31 ak_148 g2 ?_
  refine V_iconst (pc := 32) C dX12_passes_32 (v := 1) (by decide) ?_
  refine V_iadd (pc := 33) C dX12_passes_33 ?_
  obtain ⟨h3, eh3, hyp⟩ := hb_n hyp
  refine V_iast (pc := 34) C dX12_passes_34 ak_148 g2 eh3 ?_
  refine V_aload_n (pc := 35) C dX12_passes_35 rfl ?_
  refine V_getR (pc := 36) C dX12_passes_36 lf_X12_150 fk_103_69 ?_
  refine V_iload_n (pc := 39) C dX12_passes_39 rfl ?_
  refine V_iload_n (pc := 40) C dX12_passes_40 rfl ?_
  obtain ⟨g4, hyp⟩ := gd_n hyp
  obtain ⟨h5, eh5, hyp⟩ := hb_n hyp
  refine V_iast (pc := 41) C dX12_passes_41 ak_145 g4 eh5 ?_
  cases hyp
  exact V_vret C dX12_passes_42
def F_X12_passes (a1 : Int32) (a2 : Int32) (h : PH) : Option PH :=
  if inb a1 2 = true then
  if (h.1 145 a1.toNatClampNeg) ≤ a2 then
    if inb a1 2 = true then
    F_X12_passes_b20 a1 a2 (h.1 145 a1.toNatClampNeg) h
    else none
  else
    F_X12_passes_b20 a1 a2 a2 h
  else none
set_option maxRecDepth 20000 in
set_option maxHeartbeats 4000000 in
theorem M_X12_passes (E : EV) {a1 : Int32} {a2 : Int32} {h h2 : PH} (hyp : F_X12_passes a1 a2 h = some h2) : MV E 154 yX12_passes cX12_passes 4 none 0 0 [.ref 103, .int a1, .int a2] h h2 := by
  refine MV.of 1 (by decide) rfl (fun X e1 C => ?_)
  subst e1
  replace C : CX X 154 cX12_passes 4 RX12 none 0 0 := C
  show V X _ h 0 [some (.ref 103), some (.int a1), some (.int a2), none] []
  unfold F_X12_passes at hyp
  refine V_iload_n (pc := 0) C dX12_passes_0 rfl ?_
  refine V_aload_n (pc := 1) C dX12_passes_1 rfl ?_
  refine V_getR (pc := 2) C dX12_passes_2 lf_X12_150 fk_103_69 ?_
  refine V_iload_n (pc := 5) C dX12_passes_5 rfl ?_
  obtain ⟨g1, hyp⟩ := gd_n hyp
  refine V_iald (pc := 6) C dX12_passes_6 ak_145 g1 ?_
  refine V_icmp_ge (pc := 7) C dX12_passes_7 (tgt := 14) (by decide) (fun q2 => ?_) (fun q2 => ?_)
  · replace hyp := (if_pos q2).symm.trans hyp
    refine V_aload_n (pc := 14) C dX12_passes_14 rfl ?_
    refine V_getR (pc := 15) C dX12_passes_15 lf_X12_150 fk_103_69 ?_
    refine V_iload_n (pc := 18) C dX12_passes_18 rfl ?_
    obtain ⟨g3, hyp⟩ := gd_n hyp
    refine V_iald (pc := 19) C dX12_passes_19 ak_145 g3 ?_
    refine V_weak (lv' := [some (.ref 103), some (.int a1), some (.int a2), none]) (lvle_s (lvle_s (lvle_s (lvle_n lvle_0)))) ?_
    exact (T_X12_passes_b20 C) a1 a2 (h.1 145 a1.toNatClampNeg) h hyp
  · replace hyp := (if_neg q2).symm.trans hyp
    refine V_iload_n (pc := 10) C dX12_passes_10 rfl ?_
    refine V_goto (pc := 11) C dX12_passes_11 (tgt := 20) (by decide) ?_
    refine V_weak (lv' := [some (.ref 103), some (.int a1), some (.int a2), none]) (lvle_s (lvle_s (lvle_s (lvle_n lvle_0)))) ?_
    exact (T_X12_passes_b20 C) a1 a2 a2 h hyp
theorem dX12_mayStop_0 : decode cX12_mayStop 0 = .ok (.iconst 0, 1) := by decide +kernel
theorem dX12_mayStop_1 : decode cX12_mayStop 1 = .ok (.istore_n 2, 1) := by decide +kernel
theorem dX12_mayStop_2 : decode cX12_mayStop 2 = .ok (.iconst 0, 1) := by decide +kernel
theorem dX12_mayStop_3 : decode cX12_mayStop 3 = .ok (.istore_n 3, 1) := by decide +kernel
theorem dX12_mayStop_4 : decode cX12_mayStop 4 = .ok (.iconst 0, 1) := by decide +kernel
theorem dX12_mayStop_5 : decode cX12_mayStop 5 = .ok (.istore 4, 2) := by decide +kernel
theorem dX12_mayStop_7 : decode cX12_mayStop 7 = .ok (.iload 4, 2) := by decide +kernel
theorem dX12_mayStop_9 : decode cX12_mayStop 9 = .ok (.aload_n 0, 1) := by decide +kernel
theorem dX12_mayStop_10 : decode cX12_mayStop 10 = .ok (.getfield 424, 3) := by decide +kernel
theorem dX12_mayStop_13 : decode cX12_mayStop 13 = .ok (.if_icmp .ge 79, 3) := by decide +kernel
theorem dX12_mayStop_16 : decode cX12_mayStop 16 = .ok (.iload_n 2, 1) := by decide +kernel
theorem dX12_mayStop_17 : decode cX12_mayStop 17 = .ok (.aload_n 0, 1) := by decide +kernel
theorem dX12_mayStop_18 : decode cX12_mayStop 18 = .ok (.iload 4, 2) := by decide +kernel
theorem dX12_mayStop_20 : decode cX12_mayStop 20 = .ok (.iload_n 1, 1) := by decide +kernel
theorem dX12_mayStop_21 : decode cX12_mayStop 21 = .ok (.invokevirtual 430, 3) := by decide +kernel
theorem dX12_mayStop_24 : decode cX12_mayStop 24 = .ok (.ifCond .eq 23, 3) := by decide +kernel
theorem dX12_mayStop_27 : decode cX12_mayStop 27 = .ok (.aload_n 0, 1) := by decide +kernel
theorem dX12_mayStop_28 : decode cX12_mayStop 28 = .ok (.getfield 126, 3) := by decide +kernel
theorem dX12_mayStop_31 : decode cX12_mayStop 31 = .ok (.iload 4, 2) := by decide +kernel
theorem dX12_mayStop_33 : decode cX12_mayStop 33 = .ok (.iaload, 1) := by decide +kernel
theorem dX12_mayStop_34 : decode cX12_mayStop 34 = .ok (.aload_n 0, 1) := by decide +kernel
theorem dX12_mayStop_35 : decode cX12_mayStop 35 = .ok (.getfield 150, 3) := by decide +kernel
theorem dX12_mayStop_38 : decode cX12_mayStop 38 = .ok (.iload_n 1, 1) := by decide +kernel
theorem dX12_mayStop_39 : decode cX12_mayStop 39 = .ok (.iaload, 1) := by decide +kernel
theorem dX12_mayStop_40 : decode cX12_mayStop 40 = .ok (.if_icmp .ne 7, 3) := by decide +kernel
theorem dX12_mayStop_43 : decode cX12_mayStop 43 = .ok (.iconst 1, 1) := by decide +kernel
theorem dX12_mayStop_44 : decode cX12_mayStop 44 = .ok (.goto 4, 3) := by decide +kernel
theorem dX12_mayStop_47 : decode cX12_mayStop 47 = .ok (.iconst 0, 1) := by decide +kernel
theorem dX12_mayStop_48 : decode cX12_mayStop 48 = .ok (.iadd, 1) := by decide +kernel
theorem dX12_mayStop_49 : decode cX12_mayStop 49 = .ok (.istore_n 2, 1) := by decide +kernel
theorem dX12_mayStop_50 : decode cX12_mayStop 50 = .ok (.iload_n 3, 1) := by decide +kernel
theorem dX12_mayStop_51 : decode cX12_mayStop 51 = .ok (.ifCond .ne 29, 3) := by decide +kernel
theorem dX12_mayStop_54 : decode cX12_mayStop 54 = .ok (.aload_n 0, 1) := by decide +kernel
theorem dX12_mayStop_55 : decode cX12_mayStop 55 = .ok (.iload 4, 2) := by decide +kernel
theorem dX12_mayStop_57 : decode cX12_mayStop 57 = .ok (.iload_n 1, 1) := by decide +kernel
theorem dX12_mayStop_58 : decode cX12_mayStop 58 = .ok (.invokevirtual 436, 3) := by decide +kernel
theorem dX12_mayStop_61 : decode cX12_mayStop 61 = .ok (.ifCond .eq 23, 3) := by decide +kernel
theorem dX12_mayStop_64 : decode cX12_mayStop 64 = .ok (.aload_n 0, 1) := by decide +kernel
theorem dX12_mayStop_65 : decode cX12_mayStop 65 = .ok (.getfield 123, 3) := by decide +kernel
theorem dX12_mayStop_68 : decode cX12_mayStop 68 = .ok (.iload 4, 2) := by decide +kernel
theorem dX12_mayStop_70 : decode cX12_mayStop 70 = .ok (.iaload, 1) := by decide +kernel
theorem dX12_mayStop_71 : decode cX12_mayStop 71 = .ok (.aload_n 0, 1) := by decide +kernel
theorem dX12_mayStop_72 : decode cX12_mayStop 72 = .ok (.getfield 150, 3) := by decide +kernel
theorem dX12_mayStop_75 : decode cX12_mayStop 75 = .ok (.iload_n 1, 1) := by decide +kernel
theorem dX12_mayStop_76 : decode cX12_mayStop 76 = .ok (.iaload, 1) := by decide +kernel
theorem dX12_mayStop_77 : decode cX12_mayStop 77 = .ok (.if_icmp .ne 7, 3) := by decide +kernel
theorem dX12_mayStop_80 : decode cX12_mayStop 80 = .ok (.iconst 1, 1) := by decide +kernel
theorem dX12_mayStop_81 : decode cX12_mayStop 81 = .ok (.goto 4, 3) := by decide +kernel
theorem dX12_mayStop_84 : decode cX12_mayStop 84 = .ok (.iconst 0, 1) := by decide +kernel
theorem dX12_mayStop_85 : decode cX12_mayStop 85 = .ok (.istore_n 3, 1) := by decide +kernel
theorem dX12_mayStop_86 : decode cX12_mayStop 86 = .ok (.iinc 4 1, 3) := by decide +kernel
theorem dX12_mayStop_89 : decode cX12_mayStop 89 = .ok (.goto (-82), 3) := by decide +kernel
theorem dX12_mayStop_92 : decode cX12_mayStop 92 = .ok (.iload_n 2, 1) := by decide +kernel
theorem dX12_mayStop_93 : decode cX12_mayStop 93 = .ok (.ifCond .gt 19, 3) := by decide +kernel
theorem dX12_mayStop_96 : decode cX12_mayStop 96 = .ok (.iload_n 3, 1) := by decide +kernel
theorem dX12_mayStop_97 : decode cX12_mayStop 97 = .ok (.ifCond .eq 19, 3) := by decide +kernel
theorem dX12_mayStop_100 : decode cX12_mayStop 100 = .ok (.aload_n 0, 1) := by decide +kernel
theorem dX12_mayStop_101 : decode cX12_mayStop 101 = .ok (.iload_n 1, 1) := by decide +kernel
theorem dX12_mayStop_102 : decode cX12_mayStop 102 = .ok (.invokevirtual 433, 3) := by decide +kernel
theorem dX12_mayStop_105 : decode cX12_mayStop 105 = .ok (.aload_n 0, 1) := by decide +kernel
theorem dX12_mayStop_106 : decode cX12_mayStop 106 = .ok (.getfield 114, 3) := by decide +kernel
theorem dX12_mayStop_109 : decode cX12_mayStop 109 = .ok (.if_icmp .ge 7, 3) := by decide +kernel
theorem dX12_mayStop_112 : decode cX12_mayStop 112 = .ok (.iconst 1, 1) := by decide +kernel
theorem dX12_mayStop_113 : decode cX12_mayStop 113 = .ok (.goto 4, 3) := by decide +kernel
theorem dX12_mayStop_116 : decode cX12_mayStop 116 = .ok (.iconst 0, 1) := by decide +kernel
theorem dX12_mayStop_117 : decode cX12_mayStop 117 = .ok (.ireturn, 1) := by decide +kernel
def F_X12_mayStop_b85 (N : Nat) (rc7 : Int32 → Int32 → Int32 → Int32 → PH → Option (Int32 × PH)) (x1 : Int32) (x2 : Int32) (x4 : Int32) (s0 : Int32) (h : PH) : Option (Int32 × PH) :=
  ib (x4 + (1 : Int32)) fun v1 =>
  rc7 x1 x2 s0 v1 h
set_option maxRecDepth 20000 in
set_option maxHeartbeats 4000000 in
theorem T_X12_mayStop_b85 {X : CT} (C : CX X 154 cX12_mayStop 5 RX12 (some .boolean) 2 45) {r0 : Int32} {h0 : PH} {N : Nat} {rc7 : Int32 → Int32 → Int32 → Int32 → PH → Option (Int32 × PH)} (hr7 : ∀ (x1 : Int32) (x2 : Int32) (x3 : Int32) (x4 : Int32) (h : PH), rc7 x1 x2 x3 x4 h = some (r0, h0) → V X (QI X r0 h0) h 7 [some (.ref 103), some (.int x1), some (.int x2), some (.int x3), some (.int x4)] []) : ∀ (x1 : Int32) (x2 : Int32) (x4 : Int32) (s0 : Int32) (h : PH), F_X12_mayStop_b85 N rc7 x1 x2 x4 s0 h = some (r0, h0) → V X (QI X r0 h0) h 85 [some (.ref 103), some (.int x1), some (.int x2), none, some (.int x4)] [.int s0] := by
  intro x1 x2 x4 s0 h hyp
  unfold F_X12_mayStop_b85 at hyp
  refine V_istore_n (pc := 85) C dX12_mayStop_85 (by decide) rfl ?_
  obtain ⟨v1, ev1, hyp⟩ := ib_n hyp
  refine V_iinc (pc := 86) C dX12_mayStop_86 (v := v1) rfl (by rw [ev1]; rfl) (by decide) rfl ?_
  refine V_goto (pc := 89) C dX12_mayStop_89 (tgt := 7) (by decide) ?_
  refine V_weak (lv' := [some (.ref 103), some (.int x1), some (.int x2), some (.int s0), some (.int v1)]) (lvle_s (lvle_s (lvle_s (lvle_s (lvle_s lvle_0))))) ?_
  exact hr7 x1 x2 s0 v1 h hyp
def F_X12_mayStop_b80 (N : Nat) (rc7 : Int32 → Int32 → Int32 → Int32 → PH → Option (Int32 × PH)) (x1 : Int32) (x2 : Int32) (x4 : Int32) (h : PH) : Option (Int32 × PH) :=
  F_X12_mayStop_b85 N rc7 x1 x2 x4 (1 : Int32) h
set_option maxRecDepth 20000 in
set_option maxHeartbeats 4000000 in
theorem T_X12_mayStop_b80 {X : CT} (C : CX X 154 cX12_mayStop 5 RX12 (some .boolean) 2 45) {r0 : Int32} {h0 : PH} {N : Nat} {rc7 : Int32 → Int32 → Int32 → Int32 → PH → Option (Int32 × PH)} (hr7 : ∀ (x1 : Int32) (x2 : Int32) (x3 : Int32) (x4 : Int32) (h : PH), rc7 x1 x2 x3 x4 h = some (r0, h0) → V X (QI X r0 h0) h 7 [some (.ref 103), some (.int x1), some (.int x2), some (.int x3), some (.int x4)] []) : ∀ (x1 : Int32) (x2 : Int32) (x4 : Int32) (h : PH), F_X12_mayStop_b80 N rc7 x1 x2 x4 h = some (r0, h0) → V X (QI X r0 h0) h 80 [some (.ref 103), some (.int x1), some (.int x2), none, some (.int x4)] [] := by
  intro x1 x2 x4 h hyp
  unfold F_X12_mayStop_b80 at hyp
  refine V_iconst (pc := 80) C dX12_mayStop_80 (v := 1) (by decide) ?_
  refine V_goto (pc := 81) C dX12_mayStop_81 (tgt := 85) (by decide) ?_
  refine V_weak (lv' := [some (.ref 103), some (.int x1), some (.int x2), none, some (.int x4)]) (lvle_s (lvle_s (lvle_s (lvle_n (lvle_s lvle_0))))) ?_
  exact (T_X12_mayStop_b85 C hr7) x1 x2 x4 (1 : Int32) h hyp
def F_X12_mayStop_b84 (N : Nat) (rc7 : Int32 → Int32 → Int32 → Int32 → PH → Option (Int32 × PH)) (x1 : Int32) (x2 : Int32) (x4 : Int32) (h : PH) : Option (Int32 × PH) :=
  F_X12_mayStop_b85 N rc7 x1 x2 x4 (0 : Int32) h
set_option maxRecDepth 20000 in
set_option maxHeartbeats 4000000 in
theorem T_X12_mayStop_b84 {X : CT} (C : CX X 154 cX12_mayStop 5 RX12 (some .boolean) 2 45) {r0 : Int32} {h0 : PH} {N : Nat} {rc7 : Int32 → Int32 → Int32 → Int32 → PH → Option (Int32 × PH)} (hr7 : ∀ (x1 : Int32) (x2 : Int32) (x3 : Int32) (x4 : Int32) (h : PH), rc7 x1 x2 x3 x4 h = some (r0, h0) → V X (QI X r0 h0) h 7 [some (.ref 103), some (.int x1), some (.int x2), some (.int x3), some (.int x4)] []) : ∀ (x1 : Int32) (x2 : Int32) (x4 : Int32) (h : PH), F_X12_mayStop_b84 N rc7 x1 x2 x4 h = some (r0, h0) → V X (QI X r0 h0) h 84 [some (.ref 103), some (.int x1), some (.int x2), none, some (.int x4)] [] := by
  intro x1 x2 x4 h hyp
  unfold F_X12_mayStop_b84 at hyp
  refine V_iconst (pc := 84) C dX12_mayStop_84 (v := 0) (by decide) ?_
  refine V_weak (lv' := [some (.ref 103), some (.int x1), some (.int x2), none, some (.int x4)]) (lvle_s (lvle_s (lvle_s (lvle_n (lvle_s lvle_0))))) ?_
  exact (T_X12_mayStop_b85 C hr7) x1 x2 x4 (0 : Int32) h hyp
def F_X12_mayStop_b48 (N : Nat) (rc7 : Int32 → Int32 → Int32 → Int32 → PH → Option (Int32 × PH)) (x1 : Int32) (x3 : Int32) (x4 : Int32) (s0 : Int32) (s1 : Int32) (h : PH) : Option (Int32 × PH) :=
  ib (s1 + s0) fun v1 =>
  if x3 = 0 then
    bI (F_X12_isWaiting x4 x1 h) fun r3 h4 =>
    if r3 = 0 then
      F_X12_mayStop_b84 N rc7 x1 v1 x4 h4
    else
      if inb x4 24 = true then
      if inb x1 2 = true then
      if (h4.1 137 x4.toNatClampNeg) = (h4.1 145 x1.toNatClampNeg) then
        F_X12_mayStop_b80 N rc7 x1 v1 x4 h4
      else
        F_X12_mayStop_b84 N rc7 x1 v1 x4 h4
      else none
      else none
  else
    F_X12_mayStop_b80 N rc7 x1 v1 x4 h
set_option maxRecDepth 20000 in
set_option maxHeartbeats 4000000 in
theorem T_X12_mayStop_b48 {X : CT} (C : CX X 154 cX12_mayStop 5 RX12 (some .boolean) 2 45) {r0 : Int32} {h0 : PH} {N : Nat} {rc7 : Int32 → Int32 → Int32 → Int32 → PH → Option (Int32 × PH)} (hr7 : ∀ (x1 : Int32) (x2 : Int32) (x3 : Int32) (x4 : Int32) (h : PH), rc7 x1 x2 x3 x4 h = some (r0, h0) → V X (QI X r0 h0) h 7 [some (.ref 103), some (.int x1), some (.int x2), some (.int x3), some (.int x4)] []) : ∀ (x1 : Int32) (x3 : Int32) (x4 : Int32) (s0 : Int32) (s1 : Int32) (h : PH), F_X12_mayStop_b48 N rc7 x1 x3 x4 s0 s1 h = some (r0, h0) → V X (QI X r0 h0) h 48 [some (.ref 103), some (.int x1), none, some (.int x3), some (.int x4)] [.int s0, .int s1] := by
  intro x1 x3 x4 s0 s1 h hyp
  unfold F_X12_mayStop_b48 at hyp
  refine V_iadd (pc := 48) C dX12_mayStop_48 ?_
  obtain ⟨v1, ev1, hyp⟩ := ib_n hyp
  refine V_topI ev1 ?_
  refine V_istore_n (pc := 49) C dX12_mayStop_49 (by decide) rfl ?_
  refine V_iload_n (pc := 50) C dX12_mayStop_50 rfl ?_
  refine V_if_ne (pc := 51) C dX12_mayStop_51 (tgt := 80) (by decide) (fun q2 => ?_) (fun q2 => ?_)
  · replace hyp := (if_neg q2).symm.trans hyp
    refine V_weak (lv' := [some (.ref 103), some (.int x1), some (.int v1), none, some (.int x4)]) (lvle_s (lvle_s (lvle_s (lvle_n (lvle_s lvle_0))))) ?_
    exact (T_X12_mayStop_b80 C hr7) x1 v1 x4 h hyp
  · replace hyp := (if_pos q2).symm.trans hyp
    refine V_aload_n (pc := 54) C dX12_mayStop_54 rfl ?_
    refine V_iload (pc := 55) C dX12_mayStop_55 rfl ?_
    refine V_iload_n (pc := 57) C dX12_mayStop_57 rfl ?_
    obtain ⟨r3, h4, eh4, hyp⟩ := bI_n hyp
    refine V_callI (pc := 58) C dX12_mayStop_58 lm_X12_436 mk_X12_isWaiting ok_103 rfl (M_X12_isWaiting _ eh4) rfl pd_X12_isWaiting (by decide) (by decide) (by decide) (As := [.int x4, .int x1]) (rest := []) rfl (Nat.le_of_ble_eq_true rfl) ?_
    refine V_if_eq (pc := 61) C dX12_mayStop_61 (tgt := 84) (by decide) (fun q5 => ?_) (fun q5 => ?_)
    · replace hyp := (if_pos q5).symm.trans hyp
      refine V_weak (lv' := [some (.ref 103), some (.int x1), some (.int v1), none, some (.int x4)]) (lvle_s (lvle_s (lvle_s (lvle_n (lvle_s lvle_0))))) ?_
      exact (T_X12_mayStop_b84 C hr7) x1 v1 x4 h4 hyp
    · replace hyp := (if_neg q5).symm.trans hyp
      refine V_aload_n (pc := 64) C dX12_mayStop_64 rfl ?_
      refine V_getR (pc := 65) C dX12_mayStop_65 lf_X12_123 fk_103_59 ?_
      refine V_iload (pc := 68) C dX12_mayStop_68 rfl ?_
      obtain ⟨g6, hyp⟩ := gd_n hyp
      refine V_iald (pc := 70) C dX12_mayStop_70 ak_137 g6 ?_
      refine V_aload_n (pc := 71) C dX12_mayStop_71 rfl ?_
      refine V_getR (pc := 72) C dX12_mayStop_72 lf_X12_150 fk_103_69 ?_
      refine V_iload_n (pc := 75) C dX12_mayStop_75 rfl ?_
      obtain ⟨g7, hyp⟩ := gd_n hyp
      refine V_iald (pc := 76) C dX12_mayStop_76 ak_145 g7 ?_
      refine V_icmp_ne (pc := 77) C dX12_mayStop_77 (tgt := 84) (by decide) (fun q8 => ?_) (fun q8 => ?_)
      · replace hyp := (if_neg q8).symm.trans hyp
        refine V_weak (lv' := [some (.ref 103), some (.int x1), some (.int v1), none, some (.int x4)]) (lvle_s (lvle_s (lvle_s (lvle_n (lvle_s lvle_0))))) ?_
        exact (T_X12_mayStop_b84 C hr7) x1 v1 x4 h4 hyp
      · replace hyp := (if_pos q8).symm.trans hyp
        refine V_weak (lv' := [some (.ref 103), some (.int x1), some (.int v1), none, some (.int x4)]) (lvle_s (lvle_s (lvle_s (lvle_n (lvle_s lvle_0))))) ?_
        exact (T_X12_mayStop_b80 C hr7) x1 v1 x4 h4 hyp
def F_X12_mayStop_b47 (N : Nat) (rc7 : Int32 → Int32 → Int32 → Int32 → PH → Option (Int32 × PH)) (x1 : Int32) (x3 : Int32) (x4 : Int32) (s0 : Int32) (h : PH) : Option (Int32 × PH) :=
  F_X12_mayStop_b48 N rc7 x1 x3 x4 (0 : Int32) s0 h
set_option maxRecDepth 20000 in
set_option maxHeartbeats 4000000 in
theorem T_X12_mayStop_b47 {X : CT} (C : CX X 154 cX12_mayStop 5 RX12 (some .boolean) 2 45) {r0 : Int32} {h0 : PH} {N : Nat} {rc7 : Int32 → Int32 → Int32 → Int32 → PH → Option (Int32 × PH)} (hr7 : ∀ (x1 : Int32) (x2 : Int32) (x3 : Int32) (x4 : Int32) (h : PH), rc7 x1 x2 x3 x4 h = some (r0, h0) → V X (QI X r0 h0) h 7 [some (.ref 103), some (.int x1), some (.int x2), some (.int x3), some (.int x4)] []) : ∀ (x1 : Int32) (x3 : Int32) (x4 : Int32) (s0 : Int32) (h : PH), F_X12_mayStop_b47 N rc7 x1 x3 x4 s0 h = some (r0, h0) → V X (QI X r0 h0) h 47 [some (.ref 103), some (.int x1), none, some (.int x3), some (.int x4)] [.int s0] := by
  intro x1 x3 x4 s0 h hyp
  unfold F_X12_mayStop_b47 at hyp
  refine V_iconst (pc := 47) C dX12_mayStop_47 (v := 0) (by decide) ?_
  refine V_weak (lv' := [some (.ref 103), some (.int x1), none, some (.int x3), some (.int x4)]) (lvle_s (lvle_s (lvle_n (lvle_s (lvle_s lvle_0))))) ?_
  exact (T_X12_mayStop_b48 C hr7) x1 x3 x4 (0 : Int32) s0 h hyp
def F_X12_mayStop_b112 (N : Nat) (h : PH) : Option (Int32 × PH) :=
  some ((1 : Int32), h)
set_option maxRecDepth 20000 in
set_option maxHeartbeats 4000000 in
theorem T_X12_mayStop_b112 {X : CT} (C : CX X 154 cX12_mayStop 5 RX12 (some .boolean) 2 45) {r0 : Int32} {h0 : PH} {N : Nat} : ∀ (h : PH), F_X12_mayStop_b112 N  h = some (r0, h0) → V X (QI X r0 h0) h 112 [none, none, none, none, none] [] := by
  intro  h hyp
  unfold F_X12_mayStop_b112 at hyp
  refine V_iconst (pc := 112) C dX12_mayStop_112 (v := 1) (by decide) ?_
  refine V_goto (pc := 113) C dX12_mayStop_113 (tgt := 117) (by decide) ?_
  cases hyp
  exact V_zret C dX12_mayStop_117 rfl
def F_X12_mayStop_b116 (N : Nat) (h : PH) : Option (Int32 × PH) :=
  some ((0 : Int32), h)
set_option maxRecDepth 20000 in
set_option maxHeartbeats 4000000 in
theorem T_X12_mayStop_b116 {X : CT} (C : CX X 154 cX12_mayStop 5 RX12 (some .boolean) 2 45) {r0 : Int32} {h0 : PH} {N : Nat} : ∀ (h : PH), F_X12_mayStop_b116 N  h = some (r0, h0) → V X (QI X r0 h0) h 116 [none, none, none, none, none] [] := by
  intro  h hyp
  unfold F_X12_mayStop_b116 at hyp
  refine V_iconst (pc := 116) C dX12_mayStop_116 (v := 0) (by decide) ?_
  cases hyp
  exact V_zret C dX12_mayStop_117 rfl
def F_X12_mayStop_b92 (N : Nat) (x1 : Int32) (x2 : Int32) (x3 : Int32) (h : PH) : Option (Int32 × PH) :=
  if 0 < x2 then
    F_X12_mayStop_b112 N  h
  else
    if x3 = 0 then
      F_X12_mayStop_b116 N  h
    else
      bI (F_X12_loadOf N x1 h) fun r3 h4 =>
      if (h4.1 103 54) ≤ r3 then
        F_X12_mayStop_b116 N  h4
      else
        F_X12_mayStop_b112 N  h4
set_option maxRecDepth 20000 in
set_option maxHeartbeats 4000000 in
theorem T_X12_mayStop_b92 {X : CT} (C : CX X 154 cX12_mayStop 5 RX12 (some .boolean) 2 45) {r0 : Int32} {h0 : PH} {N : Nat} : ∀ (x1 : Int32) (x2 : Int32) (x3 : Int32) (h : PH), F_X12_mayStop_b92 N x1 x2 x3 h = some (r0, h0) → V X (QI X r0 h0) h 92 [some (.ref 103), some (.int x1), some (.int x2), some (.int x3), none] [] := by
  intro x1 x2 x3 h hyp
  unfold F_X12_mayStop_b92 at hyp
  refine V_iload_n (pc := 92) C dX12_mayStop_92 rfl ?_
  refine V_if_gt (pc := 93) C dX12_mayStop_93 (tgt := 112) (by decide) (fun q1 => ?_) (fun q1 => ?_)
  · replace hyp := (if_pos q1).symm.trans hyp
    refine V_weak (lv' := [none, none, none, none, none]) (lvle_n (lvle_n (lvle_n (lvle_n (lvle_n lvle_0))))) ?_
    exact (T_X12_mayStop_b112 C) h hyp
  · replace hyp := (if_neg q1).symm.trans hyp
    refine V_iload_n (pc := 96) C dX12_mayStop_96 rfl ?_
    refine V_if_eq (pc := 97) C dX12_mayStop_97 (tgt := 116) (by decide) (fun q2 => ?_) (fun q2 => ?_)
    · replace hyp := (if_pos q2).symm.trans hyp
      refine V_weak (lv' := [none, none, none, none, none]) (lvle_n (lvle_n (lvle_n (lvle_n (lvle_n lvle_0))))) ?_
      exact (T_X12_mayStop_b116 C) h hyp
    · replace hyp := (if_neg q2).symm.trans hyp
      refine V_aload_n (pc := 100) C dX12_mayStop_100 rfl ?_
      refine V_iload_n (pc := 101) C dX12_mayStop_101 rfl ?_
      obtain ⟨r3, h4, eh4, hyp⟩ := bI_n hyp
      refine V_callI (pc := 102) C dX12_mayStop_102 lm_X12_433 mk_X12_loadOf ok_103 rfl (M_X12_loadOf _ eh4) rfl pd_X12_loadOf (by decide) (by decide) (by decide) (As := [.int x1]) (rest := []) rfl (Nat.le_of_ble_eq_true rfl) ?_
      refine V_aload_n (pc := 105) C dX12_mayStop_105 rfl ?_
      refine V_getI (pc := 106) C dX12_mayStop_106 lf_X12_114 fk_103_54 ?_
      refine V_icmp_ge (pc := 109) C dX12_mayStop_109 (tgt := 116) (by decide) (fun q5 => ?_) (fun q5 => ?_)
      · replace hyp := (if_pos q5).symm.trans hyp
        refine V_weak (lv' := [none, none, none, none, none]) (lvle_n (lvle_n (lvle_n (lvle_n (lvle_n lvle_0))))) ?_
        exact (T_X12_mayStop_b116 C) h4 hyp
      · replace hyp := (if_neg q5).symm.trans hyp
        refine V_weak (lv' := [none, none, none, none, none]) (lvle_n (lvle_n (lvle_n (lvle_n (lvle_n lvle_0))))) ?_
        exact (T_X12_mayStop_b112 C) h4 hyp
def F_X12_mayStop_b7 (N : Nat) : Nat → Int32 → Int32 → Int32 → Int32 → PH → Option (Int32 × PH)
  | 0, _, _, _, _, _ => none
  | n + 1, x1, x2, x3, x4, h =>
    if (h.1 103 57) ≤ x4 then
      F_X12_mayStop_b92 N x1 x2 x3 h
    else
      bI (F_X12_isInside x4 x1 h) fun r2 h3 =>
      if r2 = 0 then
        F_X12_mayStop_b47 N (F_X12_mayStop_b7 N n) x1 x3 x4 x2 h3
      else
        if inb x4 24 = true then
        if inb x1 2 = true then
        if (h3.1 138 x4.toNatClampNeg) = (h3.1 145 x1.toNatClampNeg) then
          F_X12_mayStop_b48 N (F_X12_mayStop_b7 N n) x1 x3 x4 (1 : Int32) x2 h3
        else
          F_X12_mayStop_b47 N (F_X12_mayStop_b7 N n) x1 x3 x4 x2 h3
        else none
        else none
set_option maxRecDepth 20000 in
set_option maxHeartbeats 4000000 in
theorem T_X12_mayStop_b7 {X : CT} (C : CX X 154 cX12_mayStop 5 RX12 (some .boolean) 2 45) {r0 : Int32} {h0 : PH} {N : Nat} : ∀ (n : Nat) (x1 : Int32) (x2 : Int32) (x3 : Int32) (x4 : Int32) (h : PH), F_X12_mayStop_b7 N n x1 x2 x3 x4 h = some (r0, h0) → V X (QI X r0 h0) h 7 [some (.ref 103), some (.int x1), some (.int x2), some (.int x3), some (.int x4)] [] := by
  intro n
  induction n with
  | zero =>
    intro x1 x2 x3 x4 h hyp
    cases hyp
  | succ n ih =>
    intro x1 x2 x3 x4 h hyp
    unfold F_X12_mayStop_b7 at hyp
    refine V_iload (pc := 7) C dX12_mayStop_7 rfl ?_
    refine V_aload_n (pc := 9) C dX12_mayStop_9 rfl ?_
    refine V_getI (pc := 10) C dX12_mayStop_10 lf_X12_424 fk_103_57 ?_
    refine V_icmp_ge (pc := 13) C dX12_mayStop_13 (tgt := 92) (by decide) (fun q1 => ?_) (fun q1 => ?_)
    · replace hyp := (if_pos q1).symm.trans hyp
      refine V_weak (lv' := [some (.ref 103), some (.int x1), some (.int x2), some (.int x3), none]) (lvle_s (lvle_s (lvle_s (lvle_s (lvle_n lvle_0))))) ?_
      exact (T_X12_mayStop_b92 C) x1 x2 x3 h hyp
    · replace hyp := (if_neg q1).symm.trans hyp
      refine V_iload_n (pc := 16) C dX12_mayStop_16 rfl ?_
      refine V_aload_n (pc := 17) C dX12_mayStop_17 rfl ?_
      refine V_iload (pc := 18) C dX12_mayStop_18 rfl ?_
      refine V_iload_n (pc := 20) C dX12_mayStop_20 rfl ?_
      obtain ⟨r2, h3, eh3, hyp⟩ := bI_n hyp
      refine V_callI (pc := 21) C dX12_mayStop_21 lm_X12_430 mk_X12_isInside ok_103 rfl (M_X12_isInside _ eh3) rfl pd_X12_isInside (by decide) (by decide) (by decide) (As := [.int x4, .int x1]) (rest := [.int x2]) rfl (Nat.le_of_ble_eq_true rfl) ?_
      refine V_if_eq (pc := 24) C dX12_mayStop_24 (tgt := 47) (by decide) (fun q4 => ?_) (fun q4 => ?_)
      · replace hyp := (if_pos q4).symm.trans hyp
        refine V_weak (lv' := [some (.ref 103), some (.int x1), none, some (.int x3), some (.int x4)]) (lvle_s (lvle_s (lvle_n (lvle_s (lvle_s lvle_0))))) ?_
        exact (T_X12_mayStop_b47 C ih) x1 x3 x4 x2 h3 hyp
      · replace hyp := (if_neg q4).symm.trans hyp
        refine V_aload_n (pc := 27) C dX12_mayStop_27 rfl ?_
        refine V_getR (pc := 28) C dX12_mayStop_28 lf_X12_126 fk_103_60 ?_
        refine V_iload (pc := 31) C dX12_mayStop_31 rfl ?_
        obtain ⟨g5, hyp⟩ := gd_n hyp
        refine V_iald (pc := 33) C dX12_mayStop_33 ak_138 g5 ?_
        refine V_aload_n (pc := 34) C dX12_mayStop_34 rfl ?_
        refine V_getR (pc := 35) C dX12_mayStop_35 lf_X12_150 fk_103_69 ?_
        refine V_iload_n (pc := 38) C dX12_mayStop_38 rfl ?_
        obtain ⟨g6, hyp⟩ := gd_n hyp
        refine V_iald (pc := 39) C dX12_mayStop_39 ak_145 g6 ?_
        refine V_icmp_ne (pc := 40) C dX12_mayStop_40 (tgt := 47) (by decide) (fun q7 => ?_) (fun q7 => ?_)
        · replace hyp := (if_neg q7).symm.trans hyp
          refine V_weak (lv' := [some (.ref 103), some (.int x1), none, some (.int x3), some (.int x4)]) (lvle_s (lvle_s (lvle_n (lvle_s (lvle_s lvle_0))))) ?_
          exact (T_X12_mayStop_b47 C ih) x1 x3 x4 x2 h3 hyp
        · replace hyp := (if_pos q7).symm.trans hyp
          refine V_iconst (pc := 43) C dX12_mayStop_43 (v := 1) (by decide) ?_
          refine V_goto (pc := 44) C dX12_mayStop_44 (tgt := 48) (by decide) ?_
          refine V_weak (lv' := [some (.ref 103), some (.int x1), none, some (.int x3), some (.int x4)]) (lvle_s (lvle_s (lvle_n (lvle_s (lvle_s lvle_0))))) ?_
          exact (T_X12_mayStop_b48 C ih) x1 x3 x4 (1 : Int32) x2 h3 hyp
def F_X12_mayStop (N : Nat) (a1 : Int32) (h : PH) : Option (Int32 × PH) :=
  F_X12_mayStop_b7 N N a1 (0 : Int32) (0 : Int32) (0 : Int32) h
set_option maxRecDepth 20000 in
set_option maxHeartbeats 4000000 in
theorem M_X12_mayStop (E : EV) {N : Nat} {a1 : Int32} {r : Int32} {h h2 : PH} (hyp : F_X12_mayStop N a1 h = some (r, h2)) : MI E 154 yX12_mayStop cX12_mayStop 5 (some .boolean) 2 45 [.ref 103, .int a1] h r h2 := by
  refine MI.of 3 (by decide) rfl (fun X e1 C => ?_)
  subst e1
  replace C : CX X 154 cX12_mayStop 5 RX12 (some .boolean) 2 45 := C
  show V X _ h 0 [some (.ref 103), some (.int a1), none, none, none] []
  unfold F_X12_mayStop at hyp
  refine V_iconst (pc := 0) C dX12_mayStop_0 (v := 0) (by decide) ?_
  refine V_istore_n (pc := 1) C dX12_mayStop_1 (by decide) rfl ?_
  refine V_iconst (pc := 2) C dX12_mayStop_2 (v := 0) (by decide) ?_
  refine V_istore_n (pc := 3) C dX12_mayStop_3 (by decide) rfl ?_
  refine V_iconst (pc := 4) C dX12_mayStop_4 (v := 0) (by decide) ?_
  refine V_istore (pc := 5) C dX12_mayStop_5 (by decide) rfl ?_
  refine V_weak (lv' := [some (.ref 103), some (.int a1), some (.int (0 : Int32)), some (.int (0 : Int32)), some (.int (0 : Int32))]) (lvle_s (lvle_s (lvle_s (lvle_s (lvle_s lvle_0))))) ?_
  exact (T_X12_mayStop_b7 C) N a1 (0 : Int32) (0 : Int32) (0 : Int32) h hyp
theorem dX12_stopsAt_0 : decode cX12_stopsAt 0 = .ok (.iconst 0, 1) := by decide +kernel
theorem dX12_stopsAt_1 : decode cX12_stopsAt 1 = .ok (.istore_n 3, 1) := by decide +kernel
theorem dX12_stopsAt_2 : decode cX12_stopsAt 2 = .ok (.iload_n 3, 1) := by decide +kernel
theorem dX12_stopsAt_3 : decode cX12_stopsAt 3 = .ok (.aload_n 0, 1) := by decide +kernel
theorem dX12_stopsAt_4 : decode cX12_stopsAt 4 = .ok (.getfield 424, 3) := by decide +kernel
theorem dX12_stopsAt_7 : decode cX12_stopsAt 7 = .ok (.if_icmp .ge 40, 3) := by decide +kernel
theorem dX12_stopsAt_10 : decode cX12_stopsAt 10 = .ok (.aload_n 0, 1) := by decide +kernel
theorem dX12_stopsAt_11 : decode cX12_stopsAt 11 = .ok (.iload_n 3, 1) := by decide +kernel
theorem dX12_stopsAt_12 : decode cX12_stopsAt 12 = .ok (.iload_n 1, 1) := by decide +kernel
theorem dX12_stopsAt_13 : decode cX12_stopsAt 13 = .ok (.invokevirtual 430, 3) := by decide +kernel
theorem dX12_stopsAt_16 : decode cX12_stopsAt 16 = .ok (.ifCond .eq 25, 3) := by decide +kernel
theorem dX12_stopsAt_19 : decode cX12_stopsAt 19 = .ok (.aload_n 0, 1) := by decide +kernel
theorem dX12_stopsAt_20 : decode cX12_stopsAt 20 = .ok (.getfield 126, 3) := by decide +kernel
theorem dX12_stopsAt_23 : decode cX12_stopsAt 23 = .ok (.iload_n 3, 1) := by decide +kernel
theorem dX12_stopsAt_24 : decode cX12_stopsAt 24 = .ok (.iaload, 1) := by decide +kernel
theorem dX12_stopsAt_25 : decode cX12_stopsAt 25 = .ok (.aload_n 0, 1) := by decide +kernel
theorem dX12_stopsAt_26 : decode cX12_stopsAt 26 = .ok (.getfield 150, 3) := by decide +kernel
theorem dX12_stopsAt_29 : decode cX12_stopsAt 29 = .ok (.iload_n 1, 1) := by decide +kernel
theorem dX12_stopsAt_30 : decode cX12_stopsAt 30 = .ok (.iaload, 1) := by decide +kernel
theorem dX12_stopsAt_31 : decode cX12_stopsAt 31 = .ok (.if_icmp .ne 10, 3) := by decide +kernel
theorem dX12_stopsAt_34 : decode cX12_stopsAt 34 = .ok (.aload_n 0, 1) := by decide +kernel
theorem dX12_stopsAt_35 : decode cX12_stopsAt 35 = .ok (.getfield 147, 3) := by decide +kernel
theorem dX12_stopsAt_38 : decode cX12_stopsAt 38 = .ok (.iload_n 3, 1) := by decide +kernel
theorem dX12_stopsAt_39 : decode cX12_stopsAt 39 = .ok (.iload_n 2, 1) := by decide +kernel
theorem dX12_stopsAt_40 : decode cX12_stopsAt 40 = .ok (.iastore, 1) := by decide +kernel
theorem dX12_stopsAt_41 : decode cX12_stopsAt 41 = .ok (.iinc 3 1, 3) := by decide +kernel
theorem dX12_stopsAt_44 : decode cX12_stopsAt 44 = .ok (.goto (-42), 3) := by decide +kernel
theorem dX12_stopsAt_47 : decode cX12_stopsAt 47 = .ok (.aload_n 0, 1) := by decide +kernel
theorem dX12_stopsAt_48 : decode cX12_stopsAt 48 = .ok (.iload_n 1, 1) := by decide +kernel
theorem dX12_stopsAt_49 : decode cX12_stopsAt 49 = .ok (.invokevirtual 433, 3) := by decide +kernel
theorem dX12_stopsAt_52 : decode cX12_stopsAt 52 = .ok (.istore_n 3, 1) := by decide +kernel
theorem dX12_stopsAt_53 : decode cX12_stopsAt 53 = .ok (.iconst 0, 1) := by decide +kernel
theorem dX12_stopsAt_54 : decode cX12_stopsAt 54 = .ok (.istore 4, 2) := by decide +kernel
theorem dX12_stopsAt_56 : decode cX12_stopsAt 56 = .ok (.iload 4, 2) := by decide +kernel
theorem dX12_stopsAt_58 : decode cX12_stopsAt 58 = .ok (.aload_n 0, 1) := by decide +kernel
theorem dX12_stopsAt_59 : decode cX12_stopsAt 59 = .ok (.getfield 424, 3) := by decide +kernel
theorem dX12_stopsAt_62 : decode cX12_stopsAt 62 = .ok (.if_icmp .ge 54, 3) := by decide +kernel
theorem dX12_stopsAt_65 : decode cX12_stopsAt 65 = .ok (.iload_n 3, 1) := by decide +kernel
theorem dX12_stopsAt_66 : decode cX12_stopsAt 66 = .ok (.aload_n 0, 1) := by decide +kernel
theorem dX12_stopsAt_67 : decode cX12_stopsAt 67 = .ok (.getfield 114, 3) := by decide +kernel
theorem dX12_stopsAt_70 : decode cX12_stopsAt 70 = .ok (.if_icmp .ge 40, 3) := by decide +kernel
theorem dX12_stopsAt_73 : decode cX12_stopsAt 73 = .ok (.aload_n 0, 1) := by decide +kernel
theorem dX12_stopsAt_74 : decode cX12_stopsAt 74 = .ok (.iload 4, 2) := by decide +kernel
theorem dX12_stopsAt_76 : decode cX12_stopsAt 76 = .ok (.iload_n 1, 1) := by decide +kernel
theorem dX12_stopsAt_77 : decode cX12_stopsAt 77 = .ok (.invokevirtual 436, 3) := by decide +kernel
theorem dX12_stopsAt_80 : decode cX12_stopsAt 80 = .ok (.ifCond .eq 30, 3) := by decide +kernel
theorem dX12_stopsAt_83 : decode cX12_stopsAt 83 = .ok (.aload_n 0, 1) := by decide +kernel
theorem dX12_stopsAt_84 : decode cX12_stopsAt 84 = .ok (.getfield 123, 3) := by decide +kernel
theorem dX12_stopsAt_87 : decode cX12_stopsAt 87 = .ok (.iload 4, 2) := by decide +kernel
theorem dX12_stopsAt_89 : decode cX12_stopsAt 89 = .ok (.iaload, 1) := by decide +kernel
theorem dX12_stopsAt_90 : decode cX12_stopsAt 90 = .ok (.aload_n 0, 1) := by decide +kernel
theorem dX12_stopsAt_91 : decode cX12_stopsAt 91 = .ok (.getfield 150, 3) := by decide +kernel
theorem dX12_stopsAt_94 : decode cX12_stopsAt 94 = .ok (.iload_n 1, 1) := by decide +kernel
theorem dX12_stopsAt_95 : decode cX12_stopsAt 95 = .ok (.iaload, 1) := by decide +kernel
theorem dX12_stopsAt_96 : decode cX12_stopsAt 96 = .ok (.if_icmp .ne 14, 3) := by decide +kernel
theorem dX12_stopsAt_99 : decode cX12_stopsAt 99 = .ok (.aload_n 0, 1) := by decide +kernel
theorem dX12_stopsAt_100 : decode cX12_stopsAt 100 = .ok (.getfield 144, 3) := by decide +kernel
theorem dX12_stopsAt_103 : decode cX12_stopsAt 103 = .ok (.iload 4, 2) := by decide +kernel
theorem dX12_stopsAt_105 : decode cX12_stopsAt 105 = .ok (.iload_n 2, 1) := by decide +kernel
theorem dX12_stopsAt_106 : decode cX12_stopsAt 106 = .ok (.iastore, 1) := by decide +kernel
theorem dX12_stopsAt_107 : decode cX12_stopsAt 107 = .ok (.iinc 3 1, 3) := by decide +kernel
theorem dX12_stopsAt_110 : decode cX12_stopsAt 110 = .ok (.iinc 4 1, 3) := by decide +kernel
theorem dX12_stopsAt_113 : decode cX12_stopsAt 113 = .ok (.goto (-57), 3) := by decide +kernel
theorem dX12_stopsAt_116 : decode cX12_stopsAt 116 = .ok (.aload_n 0, 1) := by decide +kernel
theorem dX12_stopsAt_117 : decode cX12_stopsAt 117 = .ok (.getfield 156, 3) := by decide +kernel
theorem dX12_stopsAt_120 : decode cX12_stopsAt 120 = .ok (.iload_n 1, 1) := by decide +kernel
theorem dX12_stopsAt_121 : decode cX12_stopsAt 121 = .ok (.aload_n 0, 1) := by decide +kernel
theorem dX12_stopsAt_122 : decode cX12_stopsAt 122 = .ok (.getfield 117, 3) := by decide +kernel
theorem dX12_stopsAt_125 : decode cX12_stopsAt 125 = .ok (.iastore, 1) := by decide +kernel
theorem dX12_stopsAt_126 : decode cX12_stopsAt 126 = .ok (.aload_n 0, 1) := by decide +kernel
theorem dX12_stopsAt_127 : decode cX12_stopsAt 127 = .ok (.getfield 162, 3) := by decide +kernel
theorem dX12_stopsAt_130 : decode cX12_stopsAt 130 = .ok (.iload_n 1, 1) := by decide +kernel
theorem dX12_stopsAt_131 : decode cX12_stopsAt 131 = .ok (.dup2, 1) := by decide +kernel
theorem dX12_stopsAt_132 : decode cX12_stopsAt 132 = .ok (.iaload, 1) := by decide +kernel
theorem dX12_stopsAt_133 : decode cX12_stopsAt 133 = .ok (.iconst 1, 1) := by decide +kernel
theorem dX12_stopsAt_134 : decode cX12_stopsAt 134 = .ok (.iadd, 1) := by decide +kernel
theorem dX12_stopsAt_135 : decode cX12_stopsAt 135 = .ok (.iastore, 1) := by decide +kernel
theorem dX12_stopsAt_136 : decode cX12_stopsAt 136 = .ok (.return_, 1) := by decide +kernel
def F_X12_stopsAt_b41 (N : Nat) (rc2 : Int32 → Int32 → Int32 → PH → Option PH) (x1 : Int32) (x2 : Int32) (x3 : Int32) (h : PH) : Option PH :=
  ib (x3 + (1 : Int32)) fun v1 =>
  rc2 x1 x2 v1 h
set_option maxRecDepth 20000 in
set_option maxHeartbeats 4000000 in
theorem T_X12_stopsAt_b41 {X : CT} (C : CX X 154 cX12_stopsAt 5 RX12 none 2 45) {h0 : PH} {N : Nat} {rc2 : Int32 → Int32 → Int32 → PH → Option PH} (hr2 : ∀ (x1 : Int32) (x2 : Int32) (x3 : Int32) (h : PH), rc2 x1 x2 x3 h = some h0 → V X (QV X h0) h 2 [some (.ref 103), some (.int x1), some (.int x2), some (.int x3), none] []) : ∀ (x1 : Int32) (x2 : Int32) (x3 : Int32) (h : PH), F_X12_stopsAt_b41 N rc2 x1 x2 x3 h = some h0 → V X (QV X h0) h 41 [some (.ref 103), some (.int x1), some (.int x2), some (.int x3), none] [] := by
  intro x1 x2 x3 h hyp
  unfold F_X12_stopsAt_b41 at hyp
  obtain ⟨v1, ev1, hyp⟩ := ib_n hyp
  refine V_iinc (pc := 41) C dX12_stopsAt_41 (v := v1) rfl (by rw [ev1]; rfl) (by decide) rfl ?_
  refine V_goto (pc := 44) C dX12_stopsAt_44 (tgt := 2) (by decide) ?_
  refine V_weak (lv' := [some (.ref 103), some (.int x1), some (.int x2), some (.int v1), none]) (lvle_s (lvle_s (lvle_s (lvle_s (lvle_n lvle_0))))) ?_
  exact hr2 x1 x2 v1 h hyp
def F_X12_stopsAt_b110 (N : Nat) (rc56 : Int32 → Int32 → Int32 → Int32 → PH → Option PH) (x1 : Int32) (x2 : Int32) (x3 : Int32) (x4 : Int32) (h : PH) : Option PH :=
  ib (x4 + (1 : Int32)) fun v1 =>
  rc56 x1 x2 x3 v1 h
set_option maxRecDepth 20000 in
set_option maxHeartbeats 4000000 in
theorem T_X12_stopsAt_b110 {X : CT} (C : CX X 154 cX12_stopsAt 5 RX12 none 2 45) {h0 : PH} {N : Nat} {rc56 : Int32 → Int32 → Int32 → Int32 → PH → Option PH} (hr56 : ∀ (x1 : Int32) (x2 : Int32) (x3 : Int32) (x4 : Int32) (h : PH), rc56 x1 x2 x3 x4 h = some h0 → V X (QV X h0) h 56 [some (.ref 103), some (.int x1), some (.int x2), some (.int x3), some (.int x4)] []) : ∀ (x1 : Int32) (x2 : Int32) (x3 : Int32) (x4 : Int32) (h : PH), F_X12_stopsAt_b110 N rc56 x1 x2 x3 x4 h = some h0 → V X (QV X h0) h 110 [some (.ref 103), some (.int x1), some (.int x2), some (.int x3), some (.int x4)] [] := by
  intro x1 x2 x3 x4 h hyp
  unfold F_X12_stopsAt_b110 at hyp
  obtain ⟨v1, ev1, hyp⟩ := ib_n hyp
  refine V_iinc (pc := 110) C dX12_stopsAt_110 (v := v1) rfl (by rw [ev1]; rfl) (by decide) rfl ?_
  refine V_goto (pc := 113) C dX12_stopsAt_113 (tgt := 56) (by decide) ?_
  refine V_weak (lv' := [some (.ref 103), some (.int x1), some (.int x2), some (.int x3), some (.int v1)]) (lvle_s (lvle_s (lvle_s (lvle_s (lvle_s lvle_0))))) ?_
  exact hr56 x1 x2 x3 v1 h hyp
def F_X12_stopsAt_b116 (N : Nat) (x1 : Int32) (h : PH) : Option PH :=
  if inb x1 2 = true then
  hb (hs h 147 x1.toNatClampNeg (h.1 103 55)) fun h2 =>
  hb (hs h2 149 x1.toNatClampNeg ((h2.1 149 x1.toNatClampNeg) + (1 : Int32))) fun h3 =>
  some h3
  else none
set_option maxRecDepth 20000 in
set_option maxHeartbeats 4000000 in
theorem T_X12_stopsAt_b116 {X : CT} (C : CX X 154 cX12_stopsAt 5 RX12 none 2 45) {h0 : PH} {N : Nat} : ∀ (x1 : Int32) (h : PH), F_X12_stopsAt_b116 N x1 h = some h0 → V X (QV X h0) h 116 [some (.ref 103), some (.int x1), none, none, none] [] := by
  intro x1 h hyp
  unfold F_X12_stopsAt_b116 at hyp
  refine V_aload_n (pc := 116) C dX12_stopsAt_116 rfl ?_
  refine V_getR (pc := 117) C dX12_stopsAt_117 lf_X12_156 fk_103_71 ?_
  refine V_iload_n (pc := 120) C dX12_stopsAt_120 rfl ?_
  refine V_aload_n (pc := 121) C dX12_stopsAt_121 rfl ?_
  refine V_getI (pc := 122) C dX12_stopsAt_122 lf_X12_117 fk_103_55 ?_
  obtain ⟨g1, hyp⟩ := gd_n hyp
  obtain ⟨h2, eh2, hyp⟩ := hb_n hyp
  refine V_iast (pc := 125) C dX12_stopsAt_125 ak_147 g1 eh2 ?_
  refine V_aload_n (pc := 126) C dX12_stopsAt_126 rfl ?_
  refine V_getR (pc := 127) C dX12_stopsAt_127 lf_X12_162 fk_103_73 ?_
  refine V_iload_n (pc := 130) C dX12_stopsAt_130 rfl ?_
  refine V_dup2 (pc := 131) C dX12_stopsAt_131 rfl rfl ?_
  refine V_iald (pc := 132) C dX12_stopsAt_132 ak_149 g1 ?_
  refine V_iconst (pc := 133) C dX12_stopsAt_133 (v := 1) (by decide) ?_
  refine V_iadd (pc := 134) C dX12_stopsAt_134 ?_
  obtain ⟨h3, eh3, hyp⟩ := hb_n hyp
  refine V_iast (pc := 135) C dX12_stopsAt_135 ak_149 g1 eh3 ?_
  cases hyp
  exact V_vret C dX12_stopsAt_136
def F_X12_stopsAt_b56 (N : Nat) : Nat → Int32 → Int32 → Int32 → Int32 → PH → Option PH
  | 0, _, _, _, _, _ => none
  | n + 1, x1, x2, x3, x4, h =>
    if (h.1 103 57) ≤ x4 then
      F_X12_stopsAt_b116 N x1 h
    else
      if (h.1 103 54) ≤ x3 then
        F_X12_stopsAt_b110 N (F_X12_stopsAt_b56 N n) x1 x2 x3 x4 h
      else
        bI (F_X12_isWaiting x4 x1 h) fun r3 h4 =>
        if r3 = 0 then
          F_X12_stopsAt_b110 N (F_X12_stopsAt_b56 N n) x1 x2 x3 x4 h4
        else
          if inb x4 24 = true then
          if inb x1 2 = true then
          if (h4.1 137 x4.toNatClampNeg) = (h4.1 145 x1.toNatClampNeg) then
            if inb x4 24 = true then
            hb (hs h4 143 x4.toNatClampNeg x2) fun h10 =>
            ib (x3 + (1 : Int32)) fun v11 =>
            F_X12_stopsAt_b110 N (F_X12_stopsAt_b56 N n) x1 x2 v11 x4 h10
            else none
          else
            F_X12_stopsAt_b110 N (F_X12_stopsAt_b56 N n) x1 x2 x3 x4 h4
          else none
          else none
set_option maxRecDepth 20000 in
set_option maxHeartbeats 4000000 in
theorem T_X12_stopsAt_b56 {X : CT} (C : CX X 154 cX12_stopsAt 5 RX12 none 2 45) {h0 : PH} {N : Nat} : ∀ (n : Nat) (x1 : Int32) (x2 : Int32) (x3 : Int32) (x4 : Int32) (h : PH), F_X12_stopsAt_b56 N n x1 x2 x3 x4 h = some h0 → V X (QV X h0) h 56 [some (.ref 103), some (.int x1), some (.int x2), some (.int x3), some (.int x4)] [] := by
  intro n
  induction n with
  | zero =>
    intro x1 x2 x3 x4 h hyp
    cases hyp
  | succ n ih =>
    intro x1 x2 x3 x4 h hyp
    unfold F_X12_stopsAt_b56 at hyp
    refine V_iload (pc := 56) C dX12_stopsAt_56 rfl ?_
    refine V_aload_n (pc := 58) C dX12_stopsAt_58 rfl ?_
    refine V_getI (pc := 59) C dX12_stopsAt_59 lf_X12_424 fk_103_57 ?_
    refine V_icmp_ge (pc := 62) C dX12_stopsAt_62 (tgt := 116) (by decide) (fun q1 => ?_) (fun q1 => ?_)
    · replace hyp := (if_pos q1).symm.trans hyp
      refine V_weak (lv' := [some (.ref 103), some (.int x1), none, none, none]) (lvle_s (lvle_s (lvle_n (lvle_n (lvle_n lvle_0))))) ?_
      exact (T_X12_stopsAt_b116 C) x1 h hyp
    · replace hyp := (if_neg q1).symm.trans hyp
      refine V_iload_n (pc := 65) C dX12_stopsAt_65 rfl ?_
      refine V_aload_n (pc := 66) C dX12_stopsAt_66 rfl ?_
      refine V_getI (pc := 67) C dX12_stopsAt_67 lf_X12_114 fk_103_54 ?_
      refine V_icmp_ge (pc := 70) C dX12_stopsAt_70 (tgt := 110) (by decide) (fun q2 => ?_) (fun q2 => ?_)
      · replace hyp := (if_pos q2).symm.trans hyp
        refine V_weak (lv' := [some (.ref 103), some (.int x1), some (.int x2), some (.int x3), some (.int x4)]) (lvle_s (lvle_s (lvle_s (lvle_s (lvle_s lvle_0))))) ?_
        exact (T_X12_stopsAt_b110 C ih) x1 x2 x3 x4 h hyp
      · replace hyp := (if_neg q2).symm.trans hyp
        refine V_aload_n (pc := 73) C dX12_stopsAt_73 rfl ?_
        refine V_iload (pc := 74) C dX12_stopsAt_74 rfl ?_
        refine V_iload_n (pc := 76) C dX12_stopsAt_76 rfl ?_
        obtain ⟨r3, h4, eh4, hyp⟩ := bI_n hyp
        refine V_callI (pc := 77) C dX12_stopsAt_77 lm_X12_436 mk_X12_isWaiting ok_103 rfl (M_X12_isWaiting _ eh4) rfl pd_X12_isWaiting (by decide) (by decide) (by decide) (As := [.int x4, .int x1]) (rest := []) rfl (Nat.le_of_ble_eq_true rfl) ?_
        refine V_if_eq (pc := 80) C dX12_stopsAt_80 (tgt := 110) (by decide) (fun q5 => ?_) (fun q5 => ?_)
        · replace hyp := (if_pos q5).symm.trans hyp
          refine V_weak (lv' := [some (.ref 103), some (.int x1), some (.int x2), some (.int x3), some (.int x4)]) (lvle_s (lvle_s (lvle_s (lvle_s (lvle_s lvle_0))))) ?_
          exact (T_X12_stopsAt_b110 C ih) x1 x2 x3 x4 h4 hyp
        · replace hyp := (if_neg q5).symm.trans hyp
          refine V_aload_n (pc := 83) C dX12_stopsAt_83 rfl ?_
          refine V_getR (pc := 84) C dX12_stopsAt_84 lf_X12_123 fk_103_59 ?_
          refine V_iload (pc := 87) C dX12_stopsAt_87 rfl ?_
          obtain ⟨g6, hyp⟩ := gd_n hyp
          refine V_iald (pc := 89) C dX12_stopsAt_89 ak_137 g6 ?_
          refine V_aload_n (pc := 90) C dX12_stopsAt_90 rfl ?_
          refine V_getR (pc := 91) C dX12_stopsAt_91 lf_X12_150 fk_103_69 ?_
          refine V_iload_n (pc := 94) C dX12_stopsAt_94 rfl ?_
          obtain ⟨g7, hyp⟩ := gd_n hyp
          refine V_iald (pc := 95) C dX12_stopsAt_95 ak_145 g7 ?_
          refine V_icmp_ne (pc := 96) C dX12_stopsAt_96 (tgt := 110) (by decide) (fun q8 => ?_) (fun q8 => ?_)
          · replace hyp := (if_neg q8).symm.trans hyp
            refine V_weak (lv' := [some (.ref 103), some (.int x1), some (.int x2), some (.int x3), some (.int x4)]) (lvle_s (lvle_s (lvle_s (lvle_s (lvle_s lvle_0))))) ?_
            exact (T_X12_stopsAt_b110 C ih) x1 x2 x3 x4 h4 hyp
          · replace hyp := (if_pos q8).symm.trans hyp
            refine V_aload_n (pc := 99) C dX12_stopsAt_99 rfl ?_
            refine V_getR (pc := 100) C dX12_stopsAt_100 lf_X12_144 fk_103_67 ?_
            refine V_iload (pc := 103) C dX12_stopsAt_103 rfl ?_
            refine V_iload_n (pc := 105) C dX12_stopsAt_105 rfl ?_
            obtain ⟨g9, hyp⟩ := gd_n hyp
            obtain ⟨h10, eh10, hyp⟩ := hb_n hyp
            refine V_iast (pc := 106) C dX12_stopsAt_106 ak_143 g9 eh10 ?_
            obtain ⟨v11, ev11, hyp⟩ := ib_n hyp
            refine V_iinc (pc := 107) C dX12_stopsAt_107 (v := v11) rfl (by rw [ev11]; rfl) (by decide) rfl ?_
            refine V_weak (lv' := [some (.ref 103), some (.int x1), some (.int x2), some (.int v11), some (.int x4)]) (lvle_s (lvle_s (lvle_s (lvle_s (lvle_s lvle_0))))) ?_
            exact (T_X12_stopsAt_b110 C ih) x1 x2 v11 x4 h10 hyp
def F_X12_stopsAt_b47 (N : Nat) (x1 : Int32) (x2 : Int32) (h : PH) : Option PH :=
  bI (F_X12_loadOf N x1 h) fun r1 h2 =>
  F_X12_stopsAt_b56 N N x1 x2 r1 (0 : Int32) h2
set_option maxRecDepth 20000 in
set_option maxHeartbeats 4000000 in
theorem T_X12_stopsAt_b47 {X : CT} (C : CX X 154 cX12_stopsAt 5 RX12 none 2 45) {h0 : PH} {N : Nat} : ∀ (x1 : Int32) (x2 : Int32) (h : PH), F_X12_stopsAt_b47 N x1 x2 h = some h0 → V X (QV X h0) h 47 [some (.ref 103), some (.int x1), some (.int x2), none, none] [] := by
  intro x1 x2 h hyp
  unfold F_X12_stopsAt_b47 at hyp
  refine V_aload_n (pc := 47) C dX12_stopsAt_47 rfl ?_
  refine V_iload_n (pc := 48) C dX12_stopsAt_48 rfl ?_
  obtain ⟨r1, h2, eh2, hyp⟩ := bI_n hyp
  refine V_callI (pc := 49) C dX12_stopsAt_49 lm_X12_433 mk_X12_loadOf ok_103 rfl (M_X12_loadOf _ eh2) rfl pd_X12_loadOf (by decide) (by decide) (by decide) (As := [.int x1]) (rest := []) rfl (Nat.le_of_ble_eq_true rfl) ?_
  refine V_istore_n (pc := 52) C dX12_stopsAt_52 (by decide) rfl ?_
  refine V_iconst (pc := 53) C dX12_stopsAt_53 (v := 0) (by decide) ?_
  refine V_istore (pc := 54) C dX12_stopsAt_54 (by decide) rfl ?_
  refine V_weak (lv' := [some (.ref 103), some (.int x1), some (.int x2), some (.int r1), some (.int (0 : Int32))]) (lvle_s (lvle_s (lvle_s (lvle_s (lvle_s lvle_0))))) ?_
  exact (T_X12_stopsAt_b56 C) N x1 x2 r1 (0 : Int32) h2 hyp
def F_X12_stopsAt_b2 (N : Nat) : Nat → Int32 → Int32 → Int32 → PH → Option PH
  | 0, _, _, _, _ => none
  | n + 1, x1, x2, x3, h =>
    if (h.1 103 57) ≤ x3 then
      F_X12_stopsAt_b47 N x1 x2 h
    else
      bI (F_X12_isInside x3 x1 h) fun r2 h3 =>
      if r2 = 0 then
        F_X12_stopsAt_b41 N (F_X12_stopsAt_b2 N n) x1 x2 x3 h3
      else
        if inb x3 24 = true then
        if inb x1 2 = true then
        if (h3.1 138 x3.toNatClampNeg) = (h3.1 145 x1.toNatClampNeg) then
          if inb x3 24 = true then
          hb (hs h3 144 x3.toNatClampNeg x2) fun h9 =>
          F_X12_stopsAt_b41 N (F_X12_stopsAt_b2 N n) x1 x2 x3 h9
          else none
        else
          F_X12_stopsAt_b41 N (F_X12_stopsAt_b2 N n) x1 x2 x3 h3
        else none
        else none
set_option maxRecDepth 20000 in
set_option maxHeartbeats 4000000 in
theorem T_X12_stopsAt_b2 {X : CT} (C : CX X 154 cX12_stopsAt 5 RX12 none 2 45) {h0 : PH} {N : Nat} : ∀ (n : Nat) (x1 : Int32) (x2 : Int32) (x3 : Int32) (h : PH), F_X12_stopsAt_b2 N n x1 x2 x3 h = some h0 → V X (QV X h0) h 2 [some (.ref 103), some (.int x1), some (.int x2), some (.int x3), none] [] := by
  intro n
  induction n with
  | zero =>
    intro x1 x2 x3 h hyp
    cases hyp
  | succ n ih =>
    intro x1 x2 x3 h hyp
    unfold F_X12_stopsAt_b2 at hyp
    refine V_iload_n (pc := 2) C dX12_stopsAt_2 rfl ?_
    refine V_aload_n (pc := 3) C dX12_stopsAt_3 rfl ?_
    refine V_getI (pc := 4) C dX12_stopsAt_4 lf_X12_424 fk_103_57 ?_
    refine V_icmp_ge (pc := 7) C dX12_stopsAt_7 (tgt := 47) (by decide) (fun q1 => ?_) (fun q1 => ?_)
    · replace hyp := (if_pos q1).symm.trans hyp
      refine V_weak (lv' := [some (.ref 103), some (.int x1), some (.int x2), none, none]) (lvle_s (lvle_s (lvle_s (lvle_n (lvle_n lvle_0))))) ?_
      exact (T_X12_stopsAt_b47 C) x1 x2 h hyp
    · replace hyp := (if_neg q1).symm.trans hyp
      refine V_aload_n (pc := 10) C dX12_stopsAt_10 rfl ?_
      refine V_iload_n (pc := 11) C dX12_stopsAt_11 rfl ?_
      refine V_iload_n (pc := 12) C dX12_stopsAt_12 rfl ?_
      obtain ⟨r2, h3, eh3, hyp⟩ := bI_n hyp
      refine V_callI (pc := 13) C dX12_stopsAt_13 lm_X12_430 mk_X12_isInside ok_103 rfl (M_X12_isInside _ eh3) rfl pd_X12_isInside (by decide) (by decide) (by decide) (As := [.int x3, .int x1]) (rest := []) rfl (Nat.le_of_ble_eq_true rfl) ?_
      refine V_if_eq (pc := 16) C dX12_stopsAt_16 (tgt := 41) (by decide) (fun q4 => ?_) (fun q4 => ?_)
      · replace hyp := (if_pos q4).symm.trans hyp
        refine V_weak (lv' := [some (.ref 103), some (.int x1), some (.int x2), some (.int x3), none]) (lvle_s (lvle_s (lvle_s (lvle_s (lvle_n lvle_0))))) ?_
        exact (T_X12_stopsAt_b41 C ih) x1 x2 x3 h3 hyp
      · replace hyp := (if_neg q4).symm.trans hyp
        refine V_aload_n (pc := 19) C dX12_stopsAt_19 rfl ?_
        refine V_getR (pc := 20) C dX12_stopsAt_20 lf_X12_126 fk_103_60 ?_
        refine V_iload_n (pc := 23) C dX12_stopsAt_23 rfl ?_
        obtain ⟨g5, hyp⟩ := gd_n hyp
        refine V_iald (pc := 24) C dX12_stopsAt_24 ak_138 g5 ?_
        refine V_aload_n (pc := 25) C dX12_stopsAt_25 rfl ?_
        refine V_getR (pc := 26) C dX12_stopsAt_26 lf_X12_150 fk_103_69 ?_
        refine V_iload_n (pc := 29) C dX12_stopsAt_29 rfl ?_
        obtain ⟨g6, hyp⟩ := gd_n hyp
        refine V_iald (pc := 30) C dX12_stopsAt_30 ak_145 g6 ?_
        refine V_icmp_ne (pc := 31) C dX12_stopsAt_31 (tgt := 41) (by decide) (fun q7 => ?_) (fun q7 => ?_)
        · replace hyp := (if_neg q7).symm.trans hyp
          refine V_weak (lv' := [some (.ref 103), some (.int x1), some (.int x2), some (.int x3), none]) (lvle_s (lvle_s (lvle_s (lvle_s (lvle_n lvle_0))))) ?_
          exact (T_X12_stopsAt_b41 C ih) x1 x2 x3 h3 hyp
        · replace hyp := (if_pos q7).symm.trans hyp
          refine V_aload_n (pc := 34) C dX12_stopsAt_34 rfl ?_
          refine V_getR (pc := 35) C dX12_stopsAt_35 lf_X12_147 fk_103_68 ?_
          refine V_iload_n (pc := 38) C dX12_stopsAt_38 rfl ?_
          refine V_iload_n (pc := 39) C dX12_stopsAt_39 rfl ?_
          obtain ⟨g8, hyp⟩ := gd_n hyp
          obtain ⟨h9, eh9, hyp⟩ := hb_n hyp
          refine V_iast (pc := 40) C dX12_stopsAt_40 ak_144 g8 eh9 ?_
          refine V_weak (lv' := [some (.ref 103), some (.int x1), some (.int x2), some (.int x3), none]) (lvle_s (lvle_s (lvle_s (lvle_s (lvle_n lvle_0))))) ?_
          exact (T_X12_stopsAt_b41 C ih) x1 x2 x3 h9 hyp
def F_X12_stopsAt (N : Nat) (a1 : Int32) (a2 : Int32) (h : PH) : Option PH :=
  F_X12_stopsAt_b2 N N a1 a2 (0 : Int32) h
set_option maxRecDepth 20000 in
set_option maxHeartbeats 4000000 in
theorem M_X12_stopsAt (E : EV) {N : Nat} {a1 : Int32} {a2 : Int32} {h h2 : PH} (hyp : F_X12_stopsAt N a1 a2 h = some h2) : MV E 154 yX12_stopsAt cX12_stopsAt 5 none 2 45 [.ref 103, .int a1, .int a2] h h2 := by
  refine MV.of 2 (by decide) rfl (fun X e1 C => ?_)
  subst e1
  replace C : CX X 154 cX12_stopsAt 5 RX12 none 2 45 := C
  show V X _ h 0 [some (.ref 103), some (.int a1), some (.int a2), none, none] []
  unfold F_X12_stopsAt at hyp
  refine V_iconst (pc := 0) C dX12_stopsAt_0 (v := 0) (by decide) ?_
  refine V_istore_n (pc := 1) C dX12_stopsAt_1 (by decide) rfl ?_
  refine V_weak (lv' := [some (.ref 103), some (.int a1), some (.int a2), some (.int (0 : Int32)), none]) (lvle_s (lvle_s (lvle_s (lvle_s (lvle_n lvle_0))))) ?_
  exact (T_X12_stopsAt_b2 C) N a1 a2 (0 : Int32) h hyp
theorem dX12_nearest_0 : decode cX12_nearest 0 = .ok (.iconst 1, 1) := by decide +kernel
theorem dX12_nearest_1 : decode cX12_nearest 1 = .ok (.istore 4, 2) := by decide +kernel
theorem dX12_nearest_3 : decode cX12_nearest 3 = .ok (.aload_n 0, 1) := by decide +kernel
theorem dX12_nearest_4 : decode cX12_nearest 4 = .ok (.getfield 150, 3) := by decide +kernel
theorem dX12_nearest_7 : decode cX12_nearest 7 = .ok (.iload_n 1, 1) := by decide +kernel
theorem dX12_nearest_8 : decode cX12_nearest 8 = .ok (.iaload, 1) := by decide +kernel
theorem dX12_nearest_9 : decode cX12_nearest 9 = .ok (.iload_n 3, 1) := by decide +kernel
theorem dX12_nearest_10 : decode cX12_nearest 10 = .ok (.iadd, 1) := by decide +kernel
theorem dX12_nearest_11 : decode cX12_nearest 11 = .ok (.istore 5, 2) := by decide +kernel
theorem dX12_nearest_13 : decode cX12_nearest 13 = .ok (.aload_n 0, 1) := by decide +kernel
theorem dX12_nearest_14 : decode cX12_nearest 14 = .ok (.iload 5, 2) := by decide +kernel
theorem dX12_nearest_16 : decode cX12_nearest 16 = .ok (.invokevirtual 376, 3) := by decide +kernel
theorem dX12_nearest_19 : decode cX12_nearest 19 = .ok (.ifCond .eq 28, 3) := by decide +kernel
theorem dX12_nearest_22 : decode cX12_nearest 22 = .ok (.iload_n 2, 1) := by decide +kernel
theorem dX12_nearest_23 : decode cX12_nearest 23 = .ok (.iload 5, 2) := by decide +kernel
theorem dX12_nearest_25 : decode cX12_nearest 25 = .ok (.ishr, 1) := by decide +kernel
theorem dX12_nearest_26 : decode cX12_nearest 26 = .ok (.iconst 1, 1) := by decide +kernel
theorem dX12_nearest_27 : decode cX12_nearest 27 = .ok (.iand, 1) := by decide +kernel
theorem dX12_nearest_28 : decode cX12_nearest 28 = .ok (.iconst 1, 1) := by decide +kernel
theorem dX12_nearest_29 : decode cX12_nearest 29 = .ok (.if_icmp .ne 6, 3) := by decide +kernel
theorem dX12_nearest_32 : decode cX12_nearest 32 = .ok (.iload 4, 2) := by decide +kernel
theorem dX12_nearest_34 : decode cX12_nearest 34 = .ok (.ireturn, 1) := by decide +kernel
theorem dX12_nearest_35 : decode cX12_nearest 35 = .ok (.iinc 4 1, 3) := by decide +kernel
theorem dX12_nearest_38 : decode cX12_nearest 38 = .ok (.iload 5, 2) := by decide +kernel
theorem dX12_nearest_40 : decode cX12_nearest 40 = .ok (.iload_n 3, 1) := by decide +kernel
theorem dX12_nearest_41 : decode cX12_nearest 41 = .ok (.iadd, 1) := by decide +kernel
theorem dX12_nearest_42 : decode cX12_nearest 42 = .ok (.istore 5, 2) := by decide +kernel
theorem dX12_nearest_44 : decode cX12_nearest 44 = .ok (.goto (-31), 3) := by decide +kernel
theorem dX12_nearest_47 : decode cX12_nearest 47 = .ok (.bipush 99, 2) := by decide +kernel
theorem dX12_nearest_49 : decode cX12_nearest 49 = .ok (.ireturn, 1) := by decide +kernel
def F_X12_nearest_b13 (N : Nat) : Nat → Int32 → Int32 → Int32 → Int32 → PH → Option (Int32 × PH)
  | 0, _, _, _, _, _ => none
  | n + 1, x2, x3, x4, x5, h =>
    bI (F_X12_isFloor x5 h) fun r1 h2 =>
    if r1 = 0 then
      some ((99 : Int32), h2)
    else
      if ((x2 >>> (x5 &&& 31)) &&& (1 : Int32)) = (1 : Int32) then
        some (x4, h2)
      else
        ib (x4 + (1 : Int32)) fun v5 =>
        ib (x5 + x3) fun v6 =>
        F_X12_nearest_b13 N n x2 x3 v5 v6 h2
set_option maxRecDepth 20000 in
set_option maxHeartbeats 4000000 in
theorem T_X12_nearest_b13 {X : CT} (C : CX X 154 cX12_nearest 6 RX12 (some .int) 1 21) {r0 : Int32} {h0 : PH} {N : Nat} : ∀ (n : Nat) (x2 : Int32) (x3 : Int32) (x4 : Int32) (x5 : Int32) (h : PH), F_X12_nearest_b13 N n x2 x3 x4 x5 h = some (r0, h0) → V X (QI X r0 h0) h 13 [some (.ref 103), none, some (.int x2), some (.int x3), some (.int x4), some (.int x5)] [] := by
  intro n
  induction n with
  | zero =>
    intro x2 x3 x4 x5 h hyp
    cases hyp
  | succ n ih =>
    intro x2 x3 x4 x5 h hyp
    unfold F_X12_nearest_b13 at hyp
    refine V_aload_n (pc := 13) C dX12_nearest_13 rfl ?_
    refine V_iload (pc := 14) C dX12_nearest_14 rfl ?_
    obtain ⟨r1, h2, eh2, hyp⟩ := bI_n hyp
    refine V_callI (pc := 16) C dX12_nearest_16 lm_X12_376 mk_X12_isFloor ok_103 rfl (M_X12_isFloor _ eh2) rfl pd_X12_isFloor (by decide) (by decide) (by decide) (As := [.int x5]) (rest := []) rfl (Nat.le_of_ble_eq_true rfl) ?_
    refine V_if_eq (pc := 19) C dX12_nearest_19 (tgt := 47) (by decide) (fun q3 => ?_) (fun q3 => ?_)
    · replace hyp := (if_pos q3).symm.trans hyp
      refine V_bipush (pc := 47) C dX12_nearest_47 (v := 99) (by decide) ?_
      cases hyp
      exact V_iret C dX12_nearest_49
    · replace hyp := (if_neg q3).symm.trans hyp
      refine V_iload_n (pc := 22) C dX12_nearest_22 rfl ?_
      refine V_iload (pc := 23) C dX12_nearest_23 rfl ?_
      refine V_ishr (pc := 25) C dX12_nearest_25 ?_
      refine V_iconst (pc := 26) C dX12_nearest_26 (v := 1) (by decide) ?_
      refine V_iand (pc := 27) C dX12_nearest_27 ?_
      refine V_iconst (pc := 28) C dX12_nearest_28 (v := 1) (by decide) ?_
      refine V_icmp_ne (pc := 29) C dX12_nearest_29 (tgt := 35) (by decide) (fun q4 => ?_) (fun q4 => ?_)
      · replace hyp := (if_neg q4).symm.trans hyp
        obtain ⟨v5, ev5, hyp⟩ := ib_n hyp
        refine V_iinc (pc := 35) C dX12_nearest_35 (v := v5) rfl (by rw [ev5]; rfl) (by decide) rfl ?_
        refine V_iload (pc := 38) C dX12_nearest_38 rfl ?_
        refine V_iload_n (pc := 40) C dX12_nearest_40 rfl ?_
        refine V_iadd (pc := 41) C dX12_nearest_41 ?_
        obtain ⟨v6, ev6, hyp⟩ := ib_n hyp
        refine V_topI ev6 ?_
        refine V_istore (pc := 42) C dX12_nearest_42 (by decide) rfl ?_
        refine V_goto (pc := 44) C dX12_nearest_44 (tgt := 13) (by decide) ?_
        refine V_weak (lv' := [some (.ref 103), none, some (.int x2), some (.int x3), some (.int v5), some (.int v6)]) (lvle_s (lvle_n (lvle_s (lvle_s (lvle_s (lvle_s lvle_0)))))) ?_
        exact ih x2 x3 v5 v6 h2 hyp
      · replace hyp := (if_pos q4).symm.trans hyp
        refine V_iload (pc := 32) C dX12_nearest_32 rfl ?_
        cases hyp
        exact V_iret C dX12_nearest_34
def F_X12_nearest (N : Nat) (a1 : Int32) (a2 : Int32) (a3 : Int32) (h : PH) : Option (Int32 × PH) :=
  if inb a1 2 = true then
  ib ((h.1 145 a1.toNatClampNeg) + a3) fun v2 =>
  F_X12_nearest_b13 N N a2 a3 (1 : Int32) v2 h
  else none
set_option maxRecDepth 20000 in
set_option maxHeartbeats 4000000 in
theorem M_X12_nearest (E : EV) {N : Nat} {a1 : Int32} {a2 : Int32} {a3 : Int32} {r : Int32} {h h2 : PH} (hyp : F_X12_nearest N a1 a2 a3 h = some (r, h2)) : MI E 154 yX12_nearest cX12_nearest 6 (some .int) 1 21 [.ref 103, .int a1, .int a2, .int a3] h r h2 := by
  refine MI.of 2 (by decide) rfl (fun X e1 C => ?_)
  subst e1
  replace C : CX X 154 cX12_nearest 6 RX12 (some .int) 1 21 := C
  show V X _ h 0 [some (.ref 103), some (.int a1), some (.int a2), some (.int a3), none, none] []
  unfold F_X12_nearest at hyp
  refine V_iconst (pc := 0) C dX12_nearest_0 (v := 1) (by decide) ?_
  refine V_istore (pc := 1) C dX12_nearest_1 (by decide) rfl ?_
  refine V_aload_n (pc := 3) C dX12_nearest_3 rfl ?_
  refine V_getR (pc := 4) C dX12_nearest_4 lf_X12_150 fk_103_69 ?_
  refine V_iload_n (pc := 7) C dX12_nearest_7 rfl ?_
  obtain ⟨g1, hyp⟩ := gd_n hyp
  refine V_iald (pc := 8) C dX12_nearest_8 ak_145 g1 ?_
  refine V_iload_n (pc := 9) C dX12_nearest_9 rfl ?_
  refine V_iadd (pc := 10) C dX12_nearest_10 ?_
  obtain ⟨v2, ev2, hyp⟩ := ib_n hyp
  refine V_topI ev2 ?_
  refine V_istore (pc := 11) C dX12_nearest_11 (by decide) rfl ?_
  refine V_weak (lv' := [some (.ref 103), none, some (.int a2), some (.int a3), some (.int (1 : Int32)), some (.int v2)]) (lvle_s (lvle_n (lvle_s (lvle_s (lvle_s (lvle_s lvle_0)))))) ?_
  exact (T_X12_nearest_b13 C) N a2 a3 (1 : Int32) v2 h hyp
theorem dX12_goes_0 : decode cX12_goes 0 = .ok (.aload_n 0, 1) := by decide +kernel
theorem dX12_goes_1 : decode cX12_goes 1 = .ok (.iload_n 1, 1) := by decide +kernel
theorem dX12_goes_2 : decode cX12_goes 2 = .ok (.invokevirtual 439, 3) := by decide +kernel
theorem dX12_goes_5 : decode cX12_goes 5 = .ok (.istore_n 2, 1) := by decide +kernel
theorem dX12_goes_6 : decode cX12_goes 6 = .ok (.iload_n 2, 1) := by decide +kernel
theorem dX12_goes_7 : decode cX12_goes 7 = .ok (.ifCond .ne 61, 3) := by decide +kernel
theorem dX12_goes_10 : decode cX12_goes 10 = .ok (.aload_n 0, 1) := by decide +kernel
theorem dX12_goes_11 : decode cX12_goes 11 = .ok (.getfield 153, 3) := by decide +kernel
theorem dX12_goes_14 : decode cX12_goes 14 = .ok (.iload_n 1, 1) := by decide +kernel
theorem dX12_goes_15 : decode cX12_goes 15 = .ok (.iconst 0, 1) := by decide +kernel
theorem dX12_goes_16 : decode cX12_goes 16 = .ok (.iastore, 1) := by decide +kernel
theorem dX12_goes_17 : decode cX12_goes 17 = .ok (.aload_n 0, 1) := by decide +kernel
theorem dX12_goes_18 : decode cX12_goes 18 = .ok (.getfield 150, 3) := by decide +kernel
theorem dX12_goes_21 : decode cX12_goes 21 = .ok (.iload_n 1, 1) := by decide +kernel
theorem dX12_goes_22 : decode cX12_goes 22 = .ok (.iaload, 1) := by decide +kernel
theorem dX12_goes_23 : decode cX12_goes 23 = .ok (.aload_n 0, 1) := by decide +kernel
theorem dX12_goes_24 : decode cX12_goes 24 = .ok (.getfield 200, 3) := by decide +kernel
theorem dX12_goes_27 : decode cX12_goes 27 = .ok (.if_icmp .eq 40, 3) := by decide +kernel
theorem dX12_goes_30 : decode cX12_goes 30 = .ok (.aload_n 0, 1) := by decide +kernel
theorem dX12_goes_31 : decode cX12_goes 31 = .ok (.iload_n 1, 1) := by decide +kernel
theorem dX12_goes_32 : decode cX12_goes 32 = .ok (.aload_n 0, 1) := by decide +kernel
theorem dX12_goes_33 : decode cX12_goes 33 = .ok (.getfield 150, 3) := by decide +kernel
theorem dX12_goes_36 : decode cX12_goes 36 = .ok (.iload_n 1, 1) := by decide +kernel
theorem dX12_goes_37 : decode cX12_goes 37 = .ok (.iaload, 1) := by decide +kernel
theorem dX12_goes_38 : decode cX12_goes 38 = .ok (.aload_n 0, 1) := by decide +kernel
theorem dX12_goes_39 : decode cX12_goes 39 = .ok (.getfield 200, 3) := by decide +kernel
theorem dX12_goes_42 : decode cX12_goes 42 = .ok (.if_icmp .ge 14, 3) := by decide +kernel
theorem dX12_goes_45 : decode cX12_goes 45 = .ok (.aload_n 0, 1) := by decide +kernel
theorem dX12_goes_46 : decode cX12_goes 46 = .ok (.getfield 150, 3) := by decide +kernel
theorem dX12_goes_49 : decode cX12_goes 49 = .ok (.iload_n 1, 1) := by decide +kernel
theorem dX12_goes_50 : decode cX12_goes 50 = .ok (.iaload, 1) := by decide +kernel
theorem dX12_goes_51 : decode cX12_goes 51 = .ok (.iconst 1, 1) := by decide +kernel
theorem dX12_goes_52 : decode cX12_goes 52 = .ok (.iadd, 1) := by decide +kernel
theorem dX12_goes_53 : decode cX12_goes 53 = .ok (.goto 11, 3) := by decide +kernel
theorem dX12_goes_56 : decode cX12_goes 56 = .ok (.aload_n 0, 1) := by decide +kernel
theorem dX12_goes_57 : decode cX12_goes 57 = .ok (.getfield 150, 3) := by decide +kernel
theorem dX12_goes_60 : decode cX12_goes 60 = .ok (.iload_n 1, 1) := by decide +kernel
theorem dX12_goes_61 : decode cX12_goes 61 = .ok (.iaload, 1) := by decide +kernel
theorem dX12_goes_62 : decode cX12_goes 62 = .ok (.iconst 1, 1) := by decide +kernel
theorem dX12_goes_63 : decode cX12_goes 63 = .ok (.isub, 1) := by decide +kernel
theorem dX12_goes_64 : decode cX12_goes 64 = .ok (.invokevirtual 449, 3) := by decide +kernel
theorem dX12_goes_67 : decode cX12_goes 67 = .ok (.return_, 1) := by decide +kernel
theorem dX12_goes_68 : decode cX12_goes 68 = .ok (.aload_n 0, 1) := by decide +kernel
theorem dX12_goes_69 : decode cX12_goes 69 = .ok (.iload_n 1, 1) := by decide +kernel
theorem dX12_goes_70 : decode cX12_goes 70 = .ok (.iload_n 2, 1) := by decide +kernel
theorem dX12_goes_71 : decode cX12_goes 71 = .ok (.iconst 1, 1) := by decide +kernel
theorem dX12_goes_72 : decode cX12_goes 72 = .ok (.invokevirtual 452, 3) := by decide +kernel
theorem dX12_goes_75 : decode cX12_goes 75 = .ok (.istore_n 3, 1) := by decide +kernel
theorem dX12_goes_76 : decode cX12_goes 76 = .ok (.aload_n 0, 1) := by decide +kernel
theorem dX12_goes_77 : decode cX12_goes 77 = .ok (.iload_n 1, 1) := by decide +kernel
theorem dX12_goes_78 : decode cX12_goes 78 = .ok (.iload_n 2, 1) := by decide +kernel
theorem dX12_goes_79 : decode cX12_goes 79 = .ok (.iconst (-1), 1) := by decide +kernel
theorem dX12_goes_80 : decode cX12_goes 80 = .ok (.invokevirtual 452, 3) := by decide +kernel
theorem dX12_goes_83 : decode cX12_goes 83 = .ok (.istore 4, 2) := by decide +kernel
theorem dX12_goes_85 : decode cX12_goes 85 = .ok (.aload_n 0, 1) := by decide +kernel
theorem dX12_goes_86 : decode cX12_goes 86 = .ok (.getfield 153, 3) := by decide +kernel
theorem dX12_goes_89 : decode cX12_goes 89 = .ok (.iload_n 1, 1) := by decide +kernel
theorem dX12_goes_90 : decode cX12_goes 90 = .ok (.iaload, 1) := by decide +kernel
theorem dX12_goes_91 : decode cX12_goes 91 = .ok (.iconst 1, 1) := by decide +kernel
theorem dX12_goes_92 : decode cX12_goes 92 = .ok (.if_icmp .ne 9, 3) := by decide +kernel
theorem dX12_goes_95 : decode cX12_goes 95 = .ok (.iload_n 3, 1) := by decide +kernel
theorem dX12_goes_96 : decode cX12_goes 96 = .ok (.bipush 99, 2) := by decide +kernel
theorem dX12_goes_98 : decode cX12_goes 98 = .ok (.if_icmp .lt 20, 3) := by decide +kernel
theorem dX12_goes_101 : decode cX12_goes 101 = .ok (.aload_n 0, 1) := by decide +kernel
theorem dX12_goes_102 : decode cX12_goes 102 = .ok (.getfield 153, 3) := by decide +kernel
theorem dX12_goes_105 : decode cX12_goes 105 = .ok (.iload_n 1, 1) := by decide +kernel
theorem dX12_goes_106 : decode cX12_goes 106 = .ok (.iaload, 1) := by decide +kernel
theorem dX12_goes_107 : decode cX12_goes 107 = .ok (.iconst (-1), 1) := by decide +kernel
theorem dX12_goes_108 : decode cX12_goes 108 = .ok (.if_icmp .ne 14, 3) := by decide +kernel
theorem dX12_goes_111 : decode cX12_goes 111 = .ok (.iload 4, 2) := by decide +kernel
theorem dX12_goes_113 : decode cX12_goes 113 = .ok (.bipush 99, 2) := by decide +kernel
theorem dX12_goes_115 : decode cX12_goes 115 = .ok (.if_icmp .ge 7, 3) := by decide +kernel
theorem dX12_goes_118 : decode cX12_goes 118 = .ok (.iconst 1, 1) := by decide +kernel
theorem dX12_goes_119 : decode cX12_goes 119 = .ok (.goto 4, 3) := by decide +kernel
theorem dX12_goes_122 : decode cX12_goes 122 = .ok (.iconst 0, 1) := by decide +kernel
theorem dX12_goes_123 : decode cX12_goes 123 = .ok (.istore 5, 2) := by decide +kernel
theorem dX12_goes_125 : decode cX12_goes 125 = .ok (.iload 5, 2) := by decide +kernel
theorem dX12_goes_127 : decode cX12_goes 127 = .ok (.ifCond .ne 20, 3) := by decide +kernel
theorem dX12_goes_130 : decode cX12_goes 130 = .ok (.aload_n 0, 1) := by decide +kernel
theorem dX12_goes_131 : decode cX12_goes 131 = .ok (.getfield 153, 3) := by decide +kernel
theorem dX12_goes_134 : decode cX12_goes 134 = .ok (.iload_n 1, 1) := by decide +kernel
theorem dX12_goes_135 : decode cX12_goes 135 = .ok (.iload_n 3, 1) := by decide +kernel
theorem dX12_goes_136 : decode cX12_goes 136 = .ok (.iload 4, 2) := by decide +kernel
theorem dX12_goes_138 : decode cX12_goes 138 = .ok (.if_icmp .gt 7, 3) := by decide +kernel
theorem dX12_goes_141 : decode cX12_goes 141 = .ok (.iconst 1, 1) := by decide +kernel
theorem dX12_goes_142 : decode cX12_goes 142 = .ok (.goto 4, 3) := by decide +kernel
theorem dX12_goes_145 : decode cX12_goes 145 = .ok (.iconst (-1), 1) := by decide +kernel
theorem dX12_goes_146 : decode cX12_goes 146 = .ok (.iastore, 1) := by decide +kernel
theorem dX12_goes_147 : decode cX12_goes 147 = .ok (.aload_n 0, 1) := by decide +kernel
theorem dX12_goes_148 : decode cX12_goes 148 = .ok (.iload_n 1, 1) := by decide +kernel
theorem dX12_goes_149 : decode cX12_goes 149 = .ok (.aload_n 0, 1) := by decide +kernel
theorem dX12_goes_150 : decode cX12_goes 150 = .ok (.getfield 150, 3) := by decide +kernel
theorem dX12_goes_153 : decode cX12_goes 153 = .ok (.iload_n 1, 1) := by decide +kernel
theorem dX12_goes_154 : decode cX12_goes 154 = .ok (.iaload, 1) := by decide +kernel
theorem dX12_goes_155 : decode cX12_goes 155 = .ok (.aload_n 0, 1) := by decide +kernel
theorem dX12_goes_156 : decode cX12_goes 156 = .ok (.getfield 153, 3) := by decide +kernel
theorem dX12_goes_159 : decode cX12_goes 159 = .ok (.iload_n 1, 1) := by decide +kernel
theorem dX12_goes_160 : decode cX12_goes 160 = .ok (.iaload, 1) := by decide +kernel
theorem dX12_goes_161 : decode cX12_goes 161 = .ok (.iadd, 1) := by decide +kernel
theorem dX12_goes_162 : decode cX12_goes 162 = .ok (.invokevirtual 449, 3) := by decide +kernel
theorem dX12_goes_165 : decode cX12_goes 165 = .ok (.return_, 1) := by decide +kernel
def F_X12_goes_b64 (N : Nat) (s0 : Int32) (s1 : Int32) (h : PH) : Option PH :=
  bV (F_X12_passes s1 s0 h) fun h2 =>
  some h2
set_option maxRecDepth 20000 in
set_option maxHeartbeats 4000000 in
theorem T_X12_goes_b64 {X : CT} (C : CX X 154 cX12_goes 6 RX12 none 3 69) {h0 : PH} {N : Nat} : ∀ (s0 : Int32) (s1 : Int32) (h : PH), F_X12_goes_b64 N s0 s1 h = some h0 → V X (QV X h0) h 64 [none, none, none, none, none, none] [.int s0, .int s1, .ref 103] := by
  intro s0 s1 h hyp
  unfold F_X12_goes_b64 at hyp
  obtain ⟨h2, eh2, hyp⟩ := bV_n hyp
  refine V_callV (pc := 64) C dX12_goes_64 lm_X12_449 mk_X12_passes ok_103 rfl (M_X12_passes _ eh2) rfl pd_X12_passes (by decide) (by decide) (by decide) (As := [.int s1, .int s0]) (rest := []) rfl (Nat.le_of_ble_eq_true rfl) ?_
  cases hyp
  exact V_vret C dX12_goes_67
def F_X12_goes_b147 (N : Nat) (x1 : Int32) (h : PH) : Option PH :=
  if inb x1 2 = true then
  bV (F_X12_passes x1 ((h.1 145 x1.toNatClampNeg) + (h.1 146 x1.toNatClampNeg)) h) fun h3 =>
  some h3
  else none
set_option maxRecDepth 20000 in
set_option maxHeartbeats 4000000 in
theorem T_X12_goes_b147 {X : CT} (C : CX X 154 cX12_goes 6 RX12 none 3 69) {h0 : PH} {N : Nat} : ∀ (x1 : Int32) (h : PH), F_X12_goes_b147 N x1 h = some h0 → V X (QV X h0) h 147 [some (.ref 103), some (.int x1), none, none, none, none] [] := by
  intro x1 h hyp
  unfold F_X12_goes_b147 at hyp
  refine V_aload_n (pc := 147) C dX12_goes_147 rfl ?_
  refine V_iload_n (pc := 148) C dX12_goes_148 rfl ?_
  refine V_aload_n (pc := 149) C dX12_goes_149 rfl ?_
  refine V_getR (pc := 150) C dX12_goes_150 lf_X12_150 fk_103_69 ?_
  refine V_iload_n (pc := 153) C dX12_goes_153 rfl ?_
  obtain ⟨g1, hyp⟩ := gd_n hyp
  refine V_iald (pc := 154) C dX12_goes_154 ak_145 g1 ?_
  refine V_aload_n (pc := 155) C dX12_goes_155 rfl ?_
  refine V_getR (pc := 156) C dX12_goes_156 lf_X12_153 fk_103_70 ?_
  refine V_iload_n (pc := 159) C dX12_goes_159 rfl ?_
  refine V_iald (pc := 160) C dX12_goes_160 ak_146 g1 ?_
  refine V_iadd (pc := 161) C dX12_goes_161 ?_
  obtain ⟨h3, eh3, hyp⟩ := bV_n hyp
  refine V_callV (pc := 162) C dX12_goes_162 lm_X12_449 mk_X12_passes ok_103 rfl (M_X12_passes _ eh3) rfl pd_X12_passes (by decide) (by decide) (by decide) (As := [.int x1, .int ((h.1 145 x1.toNatClampNeg) + (h.1 146 x1.toNatClampNeg))]) (rest := []) rfl (Nat.le_of_ble_eq_true rfl) ?_
  cases hyp
  exact V_vret C dX12_goes_165
def F_X12_goes_b146 (N : Nat) (x1 : Int32) (s0 : Int32) (s1 : Int32) (h : PH) : Option PH :=
  if inb s1 2 = true then
  hb (hs h 146 s1.toNatClampNeg s0) fun h2 =>
  F_X12_goes_b147 N x1 h2
  else none
set_option maxRecDepth 20000 in
set_option maxHeartbeats 4000000 in
theorem T_X12_goes_b146 {X : CT} (C : CX X 154 cX12_goes 6 RX12 none 3 69) {h0 : PH} {N : Nat} : ∀ (x1 : Int32) (s0 : Int32) (s1 : Int32) (h : PH), F_X12_goes_b146 N x1 s0 s1 h = some h0 → V X (QV X h0) h 146 [some (.ref 103), some (.int x1), none, none, none, none] [.int s0, .int s1, .ref 146] := by
  intro x1 s0 s1 h hyp
  unfold F_X12_goes_b146 at hyp
  obtain ⟨g1, hyp⟩ := gd_n hyp
  obtain ⟨h2, eh2, hyp⟩ := hb_n hyp
  refine V_iast (pc := 146) C dX12_goes_146 ak_146 g1 eh2 ?_
  refine V_weak (lv' := [some (.ref 103), some (.int x1), none, none, none, none]) (lvle_s (lvle_s (lvle_n (lvle_n (lvle_n (lvle_n lvle_0)))))) ?_
  exact (T_X12_goes_b147 C) x1 h2 hyp
def F_X12_goes_b123 (N : Nat) (x1 : Int32) (x3 : Int32) (x4 : Int32) (s0 : Int32) (h : PH) : Option PH :=
  if s0 = 0 then
    if x4 < x3 then
      F_X12_goes_b146 N x1 (-1 : Int32) x1 h
    else
      F_X12_goes_b146 N x1 (1 : Int32) x1 h
  else
    F_X12_goes_b147 N x1 h
set_option maxRecDepth 20000 in
set_option maxHeartbeats 4000000 in
theorem T_X12_goes_b123 {X : CT} (C : CX X 154 cX12_goes 6 RX12 none 3 69) {h0 : PH} {N : Nat} : ∀ (x1 : Int32) (x3 : Int32) (x4 : Int32) (s0 : Int32) (h : PH), F_X12_goes_b123 N x1 x3 x4 s0 h = some h0 → V X (QV X h0) h 123 [some (.ref 103), some (.int x1), none, some (.int x3), some (.int x4), none] [.int s0] := by
  intro x1 x3 x4 s0 h hyp
  unfold F_X12_goes_b123 at hyp
  refine V_istore (pc := 123) C dX12_goes_123 (by decide) rfl ?_
  refine V_iload (pc := 125) C dX12_goes_125 rfl ?_
  refine V_if_ne (pc := 127) C dX12_goes_127 (tgt := 147) (by decide) (fun q1 => ?_) (fun q1 => ?_)
  · replace hyp := (if_neg q1).symm.trans hyp
    refine V_weak (lv' := [some (.ref 103), some (.int x1), none, none, none, none]) (lvle_s (lvle_s (lvle_n (lvle_n (lvle_n (lvle_n lvle_0)))))) ?_
    exact (T_X12_goes_b147 C) x1 h hyp
  · replace hyp := (if_pos q1).symm.trans hyp
    refine V_aload_n (pc := 130) C dX12_goes_130 rfl ?_
    refine V_getR (pc := 131) C dX12_goes_131 lf_X12_153 fk_103_70 ?_
    refine V_iload_n (pc := 134) C dX12_goes_134 rfl ?_
    refine V_iload_n (pc := 135) C dX12_goes_135 rfl ?_
    refine V_iload (pc := 136) C dX12_goes_136 rfl ?_
    refine V_icmp_gt (pc := 138) C dX12_goes_138 (tgt := 145) (by decide) (fun q2 => ?_) (fun q2 => ?_)
    · replace hyp := (if_pos q2).symm.trans hyp
      refine V_iconst (pc := 145) C dX12_goes_145 (v := -1) (by decide) ?_
      refine V_weak (lv' := [some (.ref 103), some (.int x1), none, none, none, none]) (lvle_s (lvle_s (lvle_n (lvle_n (lvle_n (lvle_n lvle_0)))))) ?_
      exact (T_X12_goes_b146 C) x1 (-1 : Int32) x1 h hyp
    · replace hyp := (if_neg q2).symm.trans hyp
      refine V_iconst (pc := 141) C dX12_goes_141 (v := 1) (by decide) ?_
      refine V_goto (pc := 142) C dX12_goes_142 (tgt := 146) (by decide) ?_
      refine V_weak (lv' := [some (.ref 103), some (.int x1), none, none, none, none]) (lvle_s (lvle_s (lvle_n (lvle_n (lvle_n (lvle_n lvle_0)))))) ?_
      exact (T_X12_goes_b146 C) x1 (1 : Int32) x1 h hyp
def F_X12_goes_b118 (N : Nat) (x1 : Int32) (x3 : Int32) (x4 : Int32) (h : PH) : Option PH :=
  F_X12_goes_b123 N x1 x3 x4 (1 : Int32) h
set_option maxRecDepth 20000 in
set_option maxHeartbeats 4000000 in
theorem T_X12_goes_b118 {X : CT} (C : CX X 154 cX12_goes 6 RX12 none 3 69) {h0 : PH} {N : Nat} : ∀ (x1 : Int32) (x3 : Int32) (x4 : Int32) (h : PH), F_X12_goes_b118 N x1 x3 x4 h = some h0 → V X (QV X h0) h 118 [some (.ref 103), some (.int x1), none, some (.int x3), some (.int x4), none] [] := by
  intro x1 x3 x4 h hyp
  unfold F_X12_goes_b118 at hyp
  refine V_iconst (pc := 118) C dX12_goes_118 (v := 1) (by decide) ?_
  refine V_goto (pc := 119) C dX12_goes_119 (tgt := 123) (by decide) ?_
  refine V_weak (lv' := [some (.ref 103), some (.int x1), none, some (.int x3), some (.int x4), none]) (lvle_s (lvle_s (lvle_n (lvle_s (lvle_s (lvle_n lvle_0)))))) ?_
  exact (T_X12_goes_b123 C) x1 x3 x4 (1 : Int32) h hyp
def F_X12_goes_b122 (N : Nat) (x1 : Int32) (x3 : Int32) (x4 : Int32) (h : PH) : Option PH :=
  F_X12_goes_b123 N x1 x3 x4 (0 : Int32) h
set_option maxRecDepth 20000 in
set_option maxHeartbeats 4000000 in
theorem T_X12_goes_b122 {X : CT} (C : CX X 154 cX12_goes 6 RX12 none 3 69) {h0 : PH} {N : Nat} : ∀ (x1 : Int32) (x3 : Int32) (x4 : Int32) (h : PH), F_X12_goes_b122 N x1 x3 x4 h = some h0 → V X (QV X h0) h 122 [some (.ref 103), some (.int x1), none, some (.int x3), some (.int x4), none] [] := by
  intro x1 x3 x4 h hyp
  unfold F_X12_goes_b122 at hyp
  refine V_iconst (pc := 122) C dX12_goes_122 (v := 0) (by decide) ?_
  refine V_weak (lv' := [some (.ref 103), some (.int x1), none, some (.int x3), some (.int x4), none]) (lvle_s (lvle_s (lvle_n (lvle_s (lvle_s (lvle_n lvle_0)))))) ?_
  exact (T_X12_goes_b123 C) x1 x3 x4 (0 : Int32) h hyp
def F_X12_goes_b101 (N : Nat) (x1 : Int32) (x3 : Int32) (x4 : Int32) (h : PH) : Option PH :=
  if inb x1 2 = true then
  if (h.1 146 x1.toNatClampNeg) = (-1 : Int32) then
    if (99 : Int32) ≤ x4 then
      F_X12_goes_b122 N x1 x3 x4 h
    else
      F_X12_goes_b118 N x1 x3 x4 h
  else
    F_X12_goes_b122 N x1 x3 x4 h
  else none
set_option maxRecDepth 20000 in
set_option maxHeartbeats 4000000 in
theorem T_X12_goes_b101 {X : CT} (C : CX X 154 cX12_goes 6 RX12 none 3 69) {h0 : PH} {N : Nat} : ∀ (x1 : Int32) (x3 : Int32) (x4 : Int32) (h : PH), F_X12_goes_b101 N x1 x3 x4 h = some h0 → V X (QV X h0) h 101 [some (.ref 103), some (.int x1), none, some (.int x3), some (.int x4), none] [] := by
  intro x1 x3 x4 h hyp
  unfold F_X12_goes_b101 at hyp
  refine V_aload_n (pc := 101) C dX12_goes_101 rfl ?_
  refine V_getR (pc := 102) C dX12_goes_102 lf_X12_153 fk_103_70 ?_
  refine V_iload_n (pc := 105) C dX12_goes_105 rfl ?_
  obtain ⟨g1, hyp⟩ := gd_n hyp
  refine V_iald (pc := 106) C dX12_goes_106 ak_146 g1 ?_
  refine V_iconst (pc := 107) C dX12_goes_107 (v := -1) (by decide) ?_
  refine V_icmp_ne (pc := 108) C dX12_goes_108 (tgt := 122) (by decide) (fun q2 => ?_) (fun q2 => ?_)
  · replace hyp := (if_neg q2).symm.trans hyp
    refine V_weak (lv' := [some (.ref 103), some (.int x1), none, some (.int x3), some (.int x4), none]) (lvle_s (lvle_s (lvle_n (lvle_s (lvle_s (lvle_n lvle_0)))))) ?_
    exact (T_X12_goes_b122 C) x1 x3 x4 h hyp
  · replace hyp := (if_pos q2).symm.trans hyp
    refine V_iload (pc := 111) C dX12_goes_111 rfl ?_
    refine V_bipush (pc := 113) C dX12_goes_113 (v := 99) (by decide) ?_
    refine V_icmp_ge (pc := 115) C dX12_goes_115 (tgt := 122) (by decide) (fun q3 => ?_) (fun q3 => ?_)
    · replace hyp := (if_pos q3).symm.trans hyp
      refine V_weak (lv' := [some (.ref 103), some (.int x1), none, some (.int x3), some (.int x4), none]) (lvle_s (lvle_s (lvle_n (lvle_s (lvle_s (lvle_n lvle_0)))))) ?_
      exact (T_X12_goes_b122 C) x1 x3 x4 h hyp
    · replace hyp := (if_neg q3).symm.trans hyp
      refine V_weak (lv' := [some (.ref 103), some (.int x1), none, some (.int x3), some (.int x4), none]) (lvle_s (lvle_s (lvle_n (lvle_s (lvle_s (lvle_n lvle_0)))))) ?_
      exact (T_X12_goes_b118 C) x1 x3 x4 h hyp
def F_X12_goes (N : Nat) (a1 : Int32) (h : PH) : Option PH :=
  bI (F_X12_goalsOf N a1 h) fun r1 h2 =>
  if r1 = 0 then
    if inb a1 2 = true then
    hb (hs h2 146 a1.toNatClampNeg (0 : Int32)) fun h12 =>
    if (h12.1 145 a1.toNatClampNeg) = (h12.1 103 56) then
      some h12
    else
      if inb a1 2 = true then
      if (h12.1 103 56) ≤ (h12.1 145 a1.toNatClampNeg) then
        if inb a1 2 = true then
        F_X12_goes_b64 N ((h12.1 145 a1.toNatClampNeg) - (1 : Int32)) a1 h12
        else none
      else
        if inb a1 2 = true then
        F_X12_goes_b64 N ((h12.1 145 a1.toNatClampNeg) + (1 : Int32)) a1 h12
        else none
      else none
    else none
  else
    bI (F_X12_nearest N a1 r1 (1 : Int32) h2) fun r4 h5 =>
    bI (F_X12_nearest N a1 r1 (-1 : Int32) h5) fun r6 h7 =>
    if inb a1 2 = true then
    if (h7.1 146 a1.toNatClampNeg) = (1 : Int32) then
      if r4 < (99 : Int32) then
        F_X12_goes_b118 N a1 r4 r6 h7
      else
        F_X12_goes_b101 N a1 r4 r6 h7
    else
      F_X12_goes_b101 N a1 r4 r6 h7
    else none
set_option maxRecDepth 20000 in
set_option maxHeartbeats 4000000 in
theorem M_X12_goes (E : EV) {N : Nat} {a1 : Int32} {h h2 : PH} (hyp : F_X12_goes N a1 h = some h2) : MV E 154 yX12_goes cX12_goes 6 none 3 69 [.ref 103, .int a1] h h2 := by
  refine MV.of 4 (by decide) rfl (fun X e1 C => ?_)
  subst e1
  replace C : CX X 154 cX12_goes 6 RX12 none 3 69 := C
  show V X _ h 0 [some (.ref 103), some (.int a1), none, none, none, none] []
  unfold F_X12_goes at hyp
  refine V_aload_n (pc := 0) C dX12_goes_0 rfl ?_
  refine V_iload_n (pc := 1) C dX12_goes_1 rfl ?_
  obtain ⟨r1, h2, eh2, hyp⟩ := bI_n hyp
  refine V_callI (pc := 2) C dX12_goes_2 lm_X12_439 mk_X12_goalsOf ok_103 rfl (M_X12_goalsOf _ eh2) rfl pd_X12_goalsOf (by decide) (by decide) (by decide) (As := [.int a1]) (rest := []) rfl (Nat.le_of_ble_eq_true rfl) ?_
  refine V_istore_n (pc := 5) C dX12_goes_5 (by decide) rfl ?_
  refine V_iload_n (pc := 6) C dX12_goes_6 rfl ?_
  refine V_if_ne (pc := 7) C dX12_goes_7 (tgt := 68) (by decide) (fun q3 => ?_) (fun q3 => ?_)
  · replace hyp := (if_neg q3).symm.trans hyp
    refine V_aload_n (pc := 68) C dX12_goes_68 rfl ?_
    refine V_iload_n (pc := 69) C dX12_goes_69 rfl ?_
    refine V_iload_n (pc := 70) C dX12_goes_70 rfl ?_
    refine V_iconst (pc := 71) C dX12_goes_71 (v := 1) (by decide) ?_
    obtain ⟨r4, h5, eh5, hyp⟩ := bI_n hyp
    refine V_callI (pc := 72) C dX12_goes_72 lm_X12_452 mk_X12_nearest ok_103 rfl (M_X12_nearest _ eh5) rfl pd_X12_nearest (by decide) (by decide) (by decide) (As := [.int a1, .int r1, .int (1 : Int32)]) (rest := []) rfl (Nat.le_of_ble_eq_true rfl) ?_
    refine V_istore_n (pc := 75) C dX12_goes_75 (by decide) rfl ?_
    refine V_aload_n (pc := 76) C dX12_goes_76 rfl ?_
    refine V_iload_n (pc := 77) C dX12_goes_77 rfl ?_
    refine V_iload_n (pc := 78) C dX12_goes_78 rfl ?_
    refine V_iconst (pc := 79) C dX12_goes_79 (v := -1) (by decide) ?_
    obtain ⟨r6, h7, eh7, hyp⟩ := bI_n hyp
    refine V_callI (pc := 80) C dX12_goes_80 lm_X12_452 mk_X12_nearest ok_103 rfl (M_X12_nearest _ eh7) rfl pd_X12_nearest (by decide) (by decide) (by decide) (As := [.int a1, .int r1, .int (-1 : Int32)]) (rest := []) rfl (Nat.le_of_ble_eq_true rfl) ?_
    refine V_istore (pc := 83) C dX12_goes_83 (by decide) rfl ?_
    refine V_aload_n (pc := 85) C dX12_goes_85 rfl ?_
    refine V_getR (pc := 86) C dX12_goes_86 lf_X12_153 fk_103_70 ?_
    refine V_iload_n (pc := 89) C dX12_goes_89 rfl ?_
    obtain ⟨g8, hyp⟩ := gd_n hyp
    refine V_iald (pc := 90) C dX12_goes_90 ak_146 g8 ?_
    refine V_iconst (pc := 91) C dX12_goes_91 (v := 1) (by decide) ?_
    refine V_icmp_ne (pc := 92) C dX12_goes_92 (tgt := 101) (by decide) (fun q9 => ?_) (fun q9 => ?_)
    · replace hyp := (if_neg q9).symm.trans hyp
      refine V_weak (lv' := [some (.ref 103), some (.int a1), none, some (.int r4), some (.int r6), none]) (lvle_s (lvle_s (lvle_n (lvle_s (lvle_s (lvle_n lvle_0)))))) ?_
      exact (T_X12_goes_b101 C) a1 r4 r6 h7 hyp
    · replace hyp := (if_pos q9).symm.trans hyp
      refine V_iload_n (pc := 95) C dX12_goes_95 rfl ?_
      refine V_bipush (pc := 96) C dX12_goes_96 (v := 99) (by decide) ?_
      refine V_icmp_lt (pc := 98) C dX12_goes_98 (tgt := 118) (by decide) (fun q10 => ?_) (fun q10 => ?_)
      · replace hyp := (if_pos q10).symm.trans hyp
        refine V_weak (lv' := [some (.ref 103), some (.int a1), none, some (.int r4), some (.int r6), none]) (lvle_s (lvle_s (lvle_n (lvle_s (lvle_s (lvle_n lvle_0)))))) ?_
        exact (T_X12_goes_b118 C) a1 r4 r6 h7 hyp
      · replace hyp := (if_neg q10).symm.trans hyp
        refine V_weak (lv' := [some (.ref 103), some (.int a1), none, some (.int r4), some (.int r6), none]) (lvle_s (lvle_s (lvle_n (lvle_s (lvle_s (lvle_n lvle_0)))))) ?_
        exact (T_X12_goes_b101 C) a1 r4 r6 h7 hyp
  · replace hyp := (if_pos q3).symm.trans hyp
    refine V_aload_n (pc := 10) C dX12_goes_10 rfl ?_
    refine V_getR (pc := 11) C dX12_goes_11 lf_X12_153 fk_103_70 ?_
    refine V_iload_n (pc := 14) C dX12_goes_14 rfl ?_
    refine V_iconst (pc := 15) C dX12_goes_15 (v := 0) (by decide) ?_
    obtain ⟨g11, hyp⟩ := gd_n hyp
    obtain ⟨h12, eh12, hyp⟩ := hb_n hyp
    refine V_iast (pc := 16) C dX12_goes_16 ak_146 g11 eh12 ?_
    refine V_aload_n (pc := 17) C dX12_goes_17 rfl ?_
    refine V_getR (pc := 18) C dX12_goes_18 lf_X12_150 fk_103_69 ?_
    refine V_iload_n (pc := 21) C dX12_goes_21 rfl ?_
    refine V_iald (pc := 22) C dX12_goes_22 ak_145 g11 ?_
    refine V_aload_n (pc := 23) C dX12_goes_23 rfl ?_
    refine V_getI (pc := 24) C dX12_goes_24 lf_X12_200 fk_103_56 ?_
    refine V_icmp_eq (pc := 27) C dX12_goes_27 (tgt := 67) (by decide) (fun q13 => ?_) (fun q13 => ?_)
    · replace hyp := (if_pos q13).symm.trans hyp
      cases hyp
      exact V_vret C dX12_goes_67
    · replace hyp := (if_neg q13).symm.trans hyp
      refine V_aload_n (pc := 30) C dX12_goes_30 rfl ?_
      refine V_iload_n (pc := 31) C dX12_goes_31 rfl ?_
      refine V_aload_n (pc := 32) C dX12_goes_32 rfl ?_
      refine V_getR (pc := 33) C dX12_goes_33 lf_X12_150 fk_103_69 ?_
      refine V_iload_n (pc := 36) C dX12_goes_36 rfl ?_
      obtain ⟨g14, hyp⟩ := gd_n hyp
      refine V_iald (pc := 37) C dX12_goes_37 ak_145 g14 ?_
      refine V_aload_n (pc := 38) C dX12_goes_38 rfl ?_
      refine V_getI (pc := 39) C dX12_goes_39 lf_X12_200 fk_103_56 ?_
      refine V_icmp_ge (pc := 42) C dX12_goes_42 (tgt := 56) (by decide) (fun q15 => ?_) (fun q15 => ?_)
      · replace hyp := (if_pos q15).symm.trans hyp
        refine V_aload_n (pc := 56) C dX12_goes_56 rfl ?_
        refine V_getR (pc := 57) C dX12_goes_57 lf_X12_150 fk_103_69 ?_
        refine V_iload_n (pc := 60) C dX12_goes_60 rfl ?_
        obtain ⟨g16, hyp⟩ := gd_n hyp
        refine V_iald (pc := 61) C dX12_goes_61 ak_145 g16 ?_
        refine V_iconst (pc := 62) C dX12_goes_62 (v := 1) (by decide) ?_
        refine V_isub (pc := 63) C dX12_goes_63 ?_
        refine V_weak (lv' := [none, none, none, none, none, none]) (lvle_n (lvle_n (lvle_n (lvle_n (lvle_n (lvle_n lvle_0)))))) ?_
        exact (T_X12_goes_b64 C) ((h12.1 145 a1.toNatClampNeg) - (1 : Int32)) a1 h12 hyp
      · replace hyp := (if_neg q15).symm.trans hyp
        refine V_aload_n (pc := 45) C dX12_goes_45 rfl ?_
        refine V_getR (pc := 46) C dX12_goes_46 lf_X12_150 fk_103_69 ?_
        refine V_iload_n (pc := 49) C dX12_goes_49 rfl ?_
        obtain ⟨g17, hyp⟩ := gd_n hyp
        refine V_iald (pc := 50) C dX12_goes_50 ak_145 g17 ?_
        refine V_iconst (pc := 51) C dX12_goes_51 (v := 1) (by decide) ?_
        refine V_iadd (pc := 52) C dX12_goes_52 ?_
        refine V_goto (pc := 53) C dX12_goes_53 (tgt := 64) (by decide) ?_
        refine V_weak (lv' := [none, none, none, none, none, none]) (lvle_n (lvle_n (lvle_n (lvle_n (lvle_n (lvle_n lvle_0)))))) ?_
        exact (T_X12_goes_b64 C) ((h12.1 145 a1.toNatClampNeg) + (1 : Int32)) a1 h12 hyp
theorem dX12_flees_0 : decode cX12_flees 0 = .ok (.aload_n 0, 1) := by decide +kernel
theorem dX12_flees_1 : decode cX12_flees 1 = .ok (.getfield 153, 3) := by decide +kernel
theorem dX12_flees_4 : decode cX12_flees 4 = .ok (.iload_n 1, 1) := by decide +kernel
theorem dX12_flees_5 : decode cX12_flees 5 = .ok (.iconst 0, 1) := by decide +kernel
theorem dX12_flees_6 : decode cX12_flees 6 = .ok (.iastore, 1) := by decide +kernel
theorem dX12_flees_7 : decode cX12_flees 7 = .ok (.aload_n 0, 1) := by decide +kernel
theorem dX12_flees_8 : decode cX12_flees 8 = .ok (.getfield 150, 3) := by decide +kernel
theorem dX12_flees_11 : decode cX12_flees 11 = .ok (.iload_n 1, 1) := by decide +kernel
theorem dX12_flees_12 : decode cX12_flees 12 = .ok (.iaload, 1) := by decide +kernel
theorem dX12_flees_13 : decode cX12_flees 13 = .ok (.ifCond .le 17, 3) := by decide +kernel
theorem dX12_flees_16 : decode cX12_flees 16 = .ok (.aload_n 0, 1) := by decide +kernel
theorem dX12_flees_17 : decode cX12_flees 17 = .ok (.iload_n 1, 1) := by decide +kernel
theorem dX12_flees_18 : decode cX12_flees 18 = .ok (.aload_n 0, 1) := by decide +kernel
theorem dX12_flees_19 : decode cX12_flees 19 = .ok (.getfield 150, 3) := by decide +kernel
theorem dX12_flees_22 : decode cX12_flees 22 = .ok (.iload_n 1, 1) := by decide +kernel
theorem dX12_flees_23 : decode cX12_flees 23 = .ok (.iaload, 1) := by decide +kernel
theorem dX12_flees_24 : decode cX12_flees 24 = .ok (.iconst 1, 1) := by decide +kernel
theorem dX12_flees_25 : decode cX12_flees 25 = .ok (.isub, 1) := by decide +kernel
theorem dX12_flees_26 : decode cX12_flees 26 = .ok (.invokevirtual 449, 3) := by decide +kernel
theorem dX12_flees_29 : decode cX12_flees 29 = .ok (.return_, 1) := by decide +kernel
theorem dX12_flees_30 : decode cX12_flees 30 = .ok (.iconst 0, 1) := by decide +kernel
theorem dX12_flees_31 : decode cX12_flees 31 = .ok (.istore_n 3, 1) := by decide +kernel
theorem dX12_flees_32 : decode cX12_flees 32 = .ok (.iload_n 3, 1) := by decide +kernel
theorem dX12_flees_33 : decode cX12_flees 33 = .ok (.aload_n 0, 1) := by decide +kernel
theorem dX12_flees_34 : decode cX12_flees 34 = .ok (.getfield 424, 3) := by decide +kernel
theorem dX12_flees_37 : decode cX12_flees 37 = .ok (.if_icmp .ge 25, 3) := by decide +kernel
theorem dX12_flees_40 : decode cX12_flees 40 = .ok (.aload_n 0, 1) := by decide +kernel
theorem dX12_flees_41 : decode cX12_flees 41 = .ok (.iload_n 3, 1) := by decide +kernel
theorem dX12_flees_42 : decode cX12_flees 42 = .ok (.iload_n 1, 1) := by decide +kernel
theorem dX12_flees_43 : decode cX12_flees 43 = .ok (.invokevirtual 430, 3) := by decide +kernel
theorem dX12_flees_46 : decode cX12_flees 46 = .ok (.ifCond .eq 10, 3) := by decide +kernel
theorem dX12_flees_49 : decode cX12_flees 49 = .ok (.aload_n 0, 1) := by decide +kernel
theorem dX12_flees_50 : decode cX12_flees 50 = .ok (.getfield 147, 3) := by decide +kernel
theorem dX12_flees_53 : decode cX12_flees 53 = .ok (.iload_n 3, 1) := by decide +kernel
theorem dX12_flees_54 : decode cX12_flees 54 = .ok (.iload_n 2, 1) := by decide +kernel
theorem dX12_flees_55 : decode cX12_flees 55 = .ok (.iastore, 1) := by decide +kernel
theorem dX12_flees_56 : decode cX12_flees 56 = .ok (.iinc 3 1, 3) := by decide +kernel
theorem dX12_flees_59 : decode cX12_flees 59 = .ok (.goto (-27), 3) := by decide +kernel
theorem dX12_flees_62 : decode cX12_flees 62 = .ok (.return_, 1) := by decide +kernel
def F_X12_flees_b56 (N : Nat) (rc32 : Int32 → Int32 → Int32 → PH → Option PH) (x1 : Int32) (x2 : Int32) (x3 : Int32) (h : PH) : Option PH :=
  ib (x3 + (1 : Int32)) fun v1 =>
  rc32 x1 x2 v1 h
set_option maxRecDepth 20000 in
set_option maxHeartbeats 4000000 in
theorem T_X12_flees_b56 {X : CT} (C : CX X 154 cX12_flees 4 RX12 none 1 23) {h0 : PH} {N : Nat} {rc32 : Int32 → Int32 → Int32 → PH → Option PH} (hr32 : ∀ (x1 : Int32) (x2 : Int32) (x3 : Int32) (h : PH), rc32 x1 x2 x3 h = some h0 → V X (QV X h0) h 32 [some (.ref 103), some (.int x1), some (.int x2), some (.int x3)] []) : ∀ (x1 : Int32) (x2 : Int32) (x3 : Int32) (h : PH), F_X12_flees_b56 N rc32 x1 x2 x3 h = some h0 → V X (QV X h0) h 56 [some (.ref 103), some (.int x1), some (.int x2), some (.int x3)] [] := by
  intro x1 x2 x3 h hyp
  unfold F_X12_flees_b56 at hyp
  obtain ⟨v1, ev1, hyp⟩ := ib_n hyp
  refine V_iinc (pc := 56) C dX12_flees_56 (v := v1) rfl (by rw [ev1]; rfl) (by decide) rfl ?_
  refine V_goto (pc := 59) C dX12_flees_59 (tgt := 32) (by decide) ?_
  refine V_weak (lv' := [some (.ref 103), some (.int x1), some (.int x2), some (.int v1)]) (lvle_s (lvle_s (lvle_s (lvle_s lvle_0)))) ?_
  exact hr32 x1 x2 v1 h hyp
def F_X12_flees_b32 (N : Nat) : Nat → Int32 → Int32 → Int32 → PH → Option PH
  | 0, _, _, _, _ => none
  | n + 1, x1, x2, x3, h =>
    if (h.1 103 57) ≤ x3 then
      some h
    else
      bI (F_X12_isInside x3 x1 h) fun r2 h3 =>
      if r2 = 0 then
        F_X12_flees_b56 N (F_X12_flees_b32 N n) x1 x2 x3 h3
      else
        if inb x3 24 = true then
        hb (hs h3 144 x3.toNatClampNeg x2) fun h6 =>
        F_X12_flees_b56 N (F_X12_flees_b32 N n) x1 x2 x3 h6
        else none
set_option maxRecDepth 20000 in
set_option maxHeartbeats 4000000 in
theorem T_X12_flees_b32 {X : CT} (C : CX X 154 cX12_flees 4 RX12 none 1 23) {h0 : PH} {N : Nat} : ∀ (n : Nat) (x1 : Int32) (x2 : Int32) (x3 : Int32) (h : PH), F_X12_flees_b32 N n x1 x2 x3 h = some h0 → V X (QV X h0) h 32 [some (.ref 103), some (.int x1), some (.int x2), some (.int x3)] [] := by
  intro n
  induction n with
  | zero =>
    intro x1 x2 x3 h hyp
    cases hyp
  | succ n ih =>
    intro x1 x2 x3 h hyp
    unfold F_X12_flees_b32 at hyp
    refine V_iload_n (pc := 32) C dX12_flees_32 rfl ?_
    refine V_aload_n (pc := 33) C dX12_flees_33 rfl ?_
    refine V_getI (pc := 34) C dX12_flees_34 lf_X12_424 fk_103_57 ?_
    refine V_icmp_ge (pc := 37) C dX12_flees_37 (tgt := 62) (by decide) (fun q1 => ?_) (fun q1 => ?_)
    · replace hyp := (if_pos q1).symm.trans hyp
      cases hyp
      exact V_vret C dX12_flees_62
    · replace hyp := (if_neg q1).symm.trans hyp
      refine V_aload_n (pc := 40) C dX12_flees_40 rfl ?_
      refine V_iload_n (pc := 41) C dX12_flees_41 rfl ?_
      refine V_iload_n (pc := 42) C dX12_flees_42 rfl ?_
      obtain ⟨r2, h3, eh3, hyp⟩ := bI_n hyp
      refine V_callI (pc := 43) C dX12_flees_43 lm_X12_430 mk_X12_isInside ok_103 rfl (M_X12_isInside _ eh3) rfl pd_X12_isInside (by decide) (by decide) (by decide) (As := [.int x3, .int x1]) (rest := []) rfl (Nat.le_of_ble_eq_true rfl) ?_
      refine V_if_eq (pc := 46) C dX12_flees_46 (tgt := 56) (by decide) (fun q4 => ?_) (fun q4 => ?_)
      · replace hyp := (if_pos q4).symm.trans hyp
        refine V_weak (lv' := [some (.ref 103), some (.int x1), some (.int x2), some (.int x3)]) (lvle_s (lvle_s (lvle_s (lvle_s lvle_0)))) ?_
        exact (T_X12_flees_b56 C ih) x1 x2 x3 h3 hyp
      · replace hyp := (if_neg q4).symm.trans hyp
        refine V_aload_n (pc := 49) C dX12_flees_49 rfl ?_
        refine V_getR (pc := 50) C dX12_flees_50 lf_X12_147 fk_103_68 ?_
        refine V_iload_n (pc := 53) C dX12_flees_53 rfl ?_
        refine V_iload_n (pc := 54) C dX12_flees_54 rfl ?_
        obtain ⟨g5, hyp⟩ := gd_n hyp
        obtain ⟨h6, eh6, hyp⟩ := hb_n hyp
        refine V_iast (pc := 55) C dX12_flees_55 ak_144 g5 eh6 ?_
        refine V_weak (lv' := [some (.ref 103), some (.int x1), some (.int x2), some (.int x3)]) (lvle_s (lvle_s (lvle_s (lvle_s lvle_0)))) ?_
        exact (T_X12_flees_b56 C ih) x1 x2 x3 h6 hyp
def F_X12_flees (N : Nat) (a1 : Int32) (a2 : Int32) (h : PH) : Option PH :=
  if inb a1 2 = true then
  hb (hs h 146 a1.toNatClampNeg (0 : Int32)) fun h2 =>
  if (h2.1 145 a1.toNatClampNeg) ≤ 0 then
    F_X12_flees_b32 N N a1 a2 (0 : Int32) h2
  else
    if inb a1 2 = true then
    bV (F_X12_passes a1 ((h2.1 145 a1.toNatClampNeg) - (1 : Int32)) h2) fun h6 =>
    some h6
    else none
  else none
set_option maxRecDepth 20000 in
set_option maxHeartbeats 4000000 in
theorem M_X12_flees (E : EV) {N : Nat} {a1 : Int32} {a2 : Int32} {h h2 : PH} (hyp : F_X12_flees N a1 a2 h = some h2) : MV E 154 yX12_flees cX12_flees 4 none 1 23 [.ref 103, .int a1, .int a2] h h2 := by
  refine MV.of 1 (by decide) rfl (fun X e1 C => ?_)
  subst e1
  replace C : CX X 154 cX12_flees 4 RX12 none 1 23 := C
  show V X _ h 0 [some (.ref 103), some (.int a1), some (.int a2), none] []
  unfold F_X12_flees at hyp
  refine V_aload_n (pc := 0) C dX12_flees_0 rfl ?_
  refine V_getR (pc := 1) C dX12_flees_1 lf_X12_153 fk_103_70 ?_
  refine V_iload_n (pc := 4) C dX12_flees_4 rfl ?_
  refine V_iconst (pc := 5) C dX12_flees_5 (v := 0) (by decide) ?_
  obtain ⟨g1, hyp⟩ := gd_n hyp
  obtain ⟨h2, eh2, hyp⟩ := hb_n hyp
  refine V_iast (pc := 6) C dX12_flees_6 ak_146 g1 eh2 ?_
  refine V_aload_n (pc := 7) C dX12_flees_7 rfl ?_
  refine V_getR (pc := 8) C dX12_flees_8 lf_X12_150 fk_103_69 ?_
  refine V_iload_n (pc := 11) C dX12_flees_11 rfl ?_
  refine V_iald (pc := 12) C dX12_flees_12 ak_145 g1 ?_
  refine V_if_le (pc := 13) C dX12_flees_13 (tgt := 30) (by decide) (fun q3 => ?_) (fun q3 => ?_)
  · replace hyp := (if_pos q3).symm.trans hyp
    refine V_iconst (pc := 30) C dX12_flees_30 (v := 0) (by decide) ?_
    refine V_istore_n (pc := 31) C dX12_flees_31 (by decide) rfl ?_
    refine V_weak (lv' := [some (.ref 103), some (.int a1), some (.int a2), some (.int (0 : Int32))]) (lvle_s (lvle_s (lvle_s (lvle_s lvle_0)))) ?_
    exact (T_X12_flees_b32 C) N a1 a2 (0 : Int32) h2 hyp
  · replace hyp := (if_neg q3).symm.trans hyp
    refine V_aload_n (pc := 16) C dX12_flees_16 rfl ?_
    refine V_iload_n (pc := 17) C dX12_flees_17 rfl ?_
    refine V_aload_n (pc := 18) C dX12_flees_18 rfl ?_
    refine V_getR (pc := 19) C dX12_flees_19 lf_X12_150 fk_103_69 ?_
    refine V_iload_n (pc := 22) C dX12_flees_22 rfl ?_
    obtain ⟨g4, hyp⟩ := gd_n hyp
    refine V_iald (pc := 23) C dX12_flees_23 ak_145 g4 ?_
    refine V_iconst (pc := 24) C dX12_flees_24 (v := 1) (by decide) ?_
    refine V_isub (pc := 25) C dX12_flees_25 ?_
    obtain ⟨h6, eh6, hyp⟩ := bV_n hyp
    refine V_callV (pc := 26) C dX12_flees_26 lm_X12_449 mk_X12_passes ok_103 rfl (M_X12_passes _ eh6) rfl pd_X12_passes (by decide) (by decide) (by decide) (As := [.int a1, .int ((h2.1 145 a1.toNatClampNeg) - (1 : Int32))]) (rest := []) rfl (Nat.le_of_ble_eq_true rfl) ?_
    cases hyp
    exact V_vret C dX12_flees_29
