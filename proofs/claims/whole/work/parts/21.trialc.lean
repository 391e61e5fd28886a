theorem dX10_sumOfWaits_0 : decode cX10_sumOfWaits 0 = .ok (.iconst 0, 1) := by decide +kernel
theorem dX10_sumOfWaits_1 : decode cX10_sumOfWaits 1 = .ok (.istore_n 1, 1) := by decide +kernel
theorem dX10_sumOfWaits_2 : decode cX10_sumOfWaits 2 = .ok (.iconst 0, 1) := by decide +kernel
theorem dX10_sumOfWaits_3 : decode cX10_sumOfWaits 3 = .ok (.istore_n 2, 1) := by decide +kernel
theorem dX10_sumOfWaits_4 : decode cX10_sumOfWaits 4 = .ok (.iload_n 2, 1) := by decide +kernel
theorem dX10_sumOfWaits_5 : decode cX10_sumOfWaits 5 = .ok (.aload_n 0, 1) := by decide +kernel
theorem dX10_sumOfWaits_6 : decode cX10_sumOfWaits 6 = .ok (.getfield 127, 3) := by decide +kernel
theorem dX10_sumOfWaits_9 : decode cX10_sumOfWaits 9 = .ok (.if_icmp .ge 18, 3) := by decide +kernel
theorem dX10_sumOfWaits_12 : decode cX10_sumOfWaits 12 = .ok (.iload_n 1, 1) := by decide +kernel
theorem dX10_sumOfWaits_13 : decode cX10_sumOfWaits 13 = .ok (.aload_n 0, 1) := by decide +kernel
theorem dX10_sumOfWaits_14 : decode cX10_sumOfWaits 14 = .ok (.getfield 21, 3) := by decide +kernel
theorem dX10_sumOfWaits_17 : decode cX10_sumOfWaits 17 = .ok (.iload_n 2, 1) := by decide +kernel
theorem dX10_sumOfWaits_18 : decode cX10_sumOfWaits 18 = .ok (.iaload, 1) := by decide +kernel
theorem dX10_sumOfWaits_19 : decode cX10_sumOfWaits 19 = .ok (.iadd, 1) := by decide +kernel
theorem dX10_sumOfWaits_20 : decode cX10_sumOfWaits 20 = .ok (.istore_n 1, 1) := by decide +kernel
theorem dX10_sumOfWaits_21 : decode cX10_sumOfWaits 21 = .ok (.iinc 2 1, 3) := by decide +kernel
theorem dX10_sumOfWaits_24 : decode cX10_sumOfWaits 24 = .ok (.goto (-20), 3) := by decide +kernel
theorem dX10_sumOfWaits_27 : decode cX10_sumOfWaits 27 = .ok (.iload_n 1, 1) := by decide +kernel
theorem dX10_sumOfWaits_28 : decode cX10_sumOfWaits 28 = .ok (.ireturn, 1) := by decide +kernel
def F_X10_sumOfWaits_b4 (N : Nat) (o : Nat) : Nat → Int32 → Int32 → PH → Option (Int32 × PH)
  | 0, _, _, _ => none
  | n + 1, x1, x2, h =>
    if (h.1 o 7) ≤ x2 then
      some (x1, h)
    else
      if inb x2 24 = true then
      ib (x1 + (h.1 (o + 4) x2.toNatClampNeg)) fun v3 =>
      ib (x2 + (1 : Int32)) fun v4 =>
      F_X10_sumOfWaits_b4 N o n v3 v4 h
      else none
set_option maxRecDepth 20000 in
set_option maxHeartbeats 4000000 in
theorem T_X10_sumOfWaits_b4 {X : CT} (C : CX X 103 cX10_sumOfWaits 3 RX10 (some .int) 0 0) {r0 : Int32} {h0 : PH} {N : Nat} {o : Nat} (ho : IST o) : ∀ (n : Nat) (x1 : Int32) (x2 : Int32) (h : PH), F_X10_sumOfWaits_b4 N o n x1 x2 h = some (r0, h0) → V X (QI X r0 h0) h 4 [some (.ref o), some (.int x1), some (.int x2)] [] := by
  intro n
  induction n with
  | zero =>
    intro x1 x2 h hyp
    cases hyp
  | succ n ih =>
    intro x1 x2 h hyp
    unfold F_X10_sumOfWaits_b4 at hyp
    refine V_iload_n (pc := 4) C dX10_sumOfWaits_4 rfl ?_
    refine V_aload_n (pc := 5) C dX10_sumOfWaits_5 rfl ?_
    refine V_getI (pc := 6) C dX10_sumOfWaits_6 lf_X10_127 (fkT_7 ho) ?_
    refine V_icmp_ge (pc := 9) C dX10_sumOfWaits_9 (tgt := 27) (by decide) (fun q1 => ?_) (fun q1 => ?_)
    · replace hyp := (if_pos q1).symm.trans hyp
      refine V_iload_n (pc := 27) C dX10_sumOfWaits_27 rfl ?_
      cases hyp
      exact V_iret C dX10_sumOfWaits_28
    · replace hyp := (if_neg q1).symm.trans hyp
      refine V_iload_n (pc := 12) C dX10_sumOfWaits_12 rfl ?_
      refine V_aload_n (pc := 13) C dX10_sumOfWaits_13 rfl ?_
      refine V_getR (pc := 14) C dX10_sumOfWaits_14 lf_X10_21 (fkT_3 ho) ?_
      refine V_iload_n (pc := 17) C dX10_sumOfWaits_17 rfl ?_
      obtain ⟨g2, hyp⟩ := gd_n hyp
      refine V_iald (pc := 18) C dX10_sumOfWaits_18 (akT_4 ho) g2 ?_
      refine V_iadd (pc := 19) C dX10_sumOfWaits_19 ?_
      obtain ⟨v3, ev3, hyp⟩ := ib_n hyp
      refine V_topI ev3 ?_
      refine V_istore_n (pc := 20) C dX10_sumOfWaits_20 (by decide) rfl ?_
      obtain ⟨v4, ev4, hyp⟩ := ib_n hyp
      refine V_iinc (pc := 21) C dX10_sumOfWaits_21 (v := v4) rfl (by rw [ev4]; rfl) (by decide) rfl ?_
      refine V_goto (pc := 24) C dX10_sumOfWaits_24 (tgt := 4) (by decide) ?_
      refine V_weak (lv' := [some (.ref o), some (.int v3), some (.int v4)]) (lvle_s (lvle_s (lvle_s lvle_0))) ?_
      exact ih v3 v4 h hyp
def F_X10_sumOfWaits (N : Nat) (o : Nat) (h : PH) : Option (Int32 × PH) :=
  F_X10_sumOfWaits_b4 N o N (0 : Int32) (0 : Int32) h
set_option maxRecDepth 20000 in
set_option maxHeartbeats 4000000 in
theorem M_X10_sumOfWaits (E : EV) {N : Nat} {o : Nat} (ho : IST o) {r : Int32} {h h2 : PH} (hyp : F_X10_sumOfWaits N o h = some (r, h2)) : MI E 103 yX10_sumOfWaits cX10_sumOfWaits 3 (some .int) 0 0 [.ref o] h r h2 := by
  refine MI.of 2 (by decide) rfl (fun X e1 C => ?_)
  subst e1
  replace C : CX X 103 cX10_sumOfWaits 3 RX10 (some .int) 0 0 := C
  show V X _ h 0 [some (.ref o), none, none] []
  unfold F_X10_sumOfWaits at hyp
  refine V_iconst (pc := 0) C dX10_sumOfWaits_0 (v := 0) (by decide) ?_
  refine V_istore_n (pc := 1) C dX10_sumOfWaits_1 (by decide) rfl ?_
  refine V_iconst (pc := 2) C dX10_sumOfWaits_2 (v := 0) (by decide) ?_
  refine V_istore_n (pc := 3) C dX10_sumOfWaits_3 (by decide) rfl ?_
  refine V_weak (lv' := [some (.ref o), some (.int (0 : Int32)), some (.int (0 : Int32))]) (lvle_s (lvle_s (lvle_s lvle_0))) ?_
  exact (T_X10_sumOfWaits_b4 C ho) N (0 : Int32) (0 : Int32) h hyp
theorem dX10_longestWaiter_0 : decode cX10_longestWaiter 0 = .ok (.iconst 0, 1) := by decide +kernel
theorem dX10_longestWaiter_1 : decode cX10_longestWaiter 1 = .ok (.istore_n 1, 1) := by decide +kernel
theorem dX10_longestWaiter_2 : decode cX10_longestWaiter 2 = .ok (.iconst 1, 1) := by decide +kernel
theorem dX10_longestWaiter_3 : decode cX10_longestWaiter 3 = .ok (.istore_n 2, 1) := by decide +kernel
theorem dX10_longestWaiter_4 : decode cX10_longestWaiter 4 = .ok (.iload_n 2, 1) := by decide +kernel
theorem dX10_longestWaiter_5 : decode cX10_longestWaiter 5 = .ok (.aload_n 0, 1) := by decide +kernel
theorem dX10_longestWaiter_6 : decode cX10_longestWaiter 6 = .ok (.getfield 127, 3) := by decide +kernel
theorem dX10_longestWaiter_9 : decode cX10_longestWaiter 9 = .ok (.if_icmp .ge 26, 3) := by decide +kernel
theorem dX10_longestWaiter_12 : decode cX10_longestWaiter 12 = .ok (.aload_n 0, 1) := by decide +kernel
theorem dX10_longestWaiter_13 : decode cX10_longestWaiter 13 = .ok (.getfield 21, 3) := by decide +kernel
theorem dX10_longestWaiter_16 : decode cX10_longestWaiter 16 = .ok (.iload_n 2, 1) := by decide +kernel
theorem dX10_longestWaiter_17 : decode cX10_longestWaiter 17 = .ok (.iaload, 1) := by decide +kernel
theorem dX10_longestWaiter_18 : decode cX10_longestWaiter 18 = .ok (.aload_n 0, 1) := by decide +kernel
theorem dX10_longestWaiter_19 : decode cX10_longestWaiter 19 = .ok (.getfield 21, 3) := by decide +kernel
theorem dX10_longestWaiter_22 : decode cX10_longestWaiter 22 = .ok (.iload_n 1, 1) := by decide +kernel
theorem dX10_longestWaiter_23 : decode cX10_longestWaiter 23 = .ok (.iaload, 1) := by decide +kernel
theorem dX10_longestWaiter_24 : decode cX10_longestWaiter 24 = .ok (.if_icmp .le 5, 3) := by decide +kernel
theorem dX10_longestWaiter_27 : decode cX10_longestWaiter 27 = .ok (.iload_n 2, 1) := by decide +kernel
theorem dX10_longestWaiter_28 : decode cX10_longestWaiter 28 = .ok (.istore_n 1, 1) := by decide +kernel
theorem dX10_longestWaiter_29 : decode cX10_longestWaiter 29 = .ok (.iinc 2 1, 3) := by decide +kernel
theorem dX10_longestWaiter_32 : decode cX10_longestWaiter 32 = .ok (.goto (-28), 3) := by decide +kernel
theorem dX10_longestWaiter_35 : decode cX10_longestWaiter 35 = .ok (.iload_n 1, 1) := by decide +kernel
theorem dX10_longestWaiter_36 : decode cX10_longestWaiter 36 = .ok (.ireturn, 1) := by decide +kernel
def F_X10_longestWaiter_b29 (N : Nat) (o : Nat) (rc4 : Int32 → Int32 → PH → Option (Int32 × PH)) (x1 : Int32) (x2 : Int32) (h : PH) : Option (Int32 × PH) :=
  ib (x2 + (1 : Int32)) fun v1 =>
  rc4 x1 v1 h
set_option maxRecDepth 20000 in
set_option maxHeartbeats 4000000 in
theorem T_X10_longestWaiter_b29 {X : CT} (C : CX X 103 cX10_longestWaiter 3 RX10 (some .int) 0 0) {r0 : Int32} {h0 : PH} {N : Nat} {o : Nat} (ho : IST o) {rc4 : Int32 → Int32 → PH → Option (Int32 × PH)} (hr4 : ∀ (x1 : Int32) (x2 : Int32) (h : PH), rc4 x1 x2 h = some (r0, h0) → V X (QI X r0 h0) h 4 [some (.ref o), some (.int x1), some (.int x2)] []) : ∀ (x1 : Int32) (x2 : Int32) (h : PH), F_X10_longestWaiter_b29 N o rc4 x1 x2 h = some (r0, h0) → V X (QI X r0 h0) h 29 [some (.ref o), some (.int x1), some (.int x2)] [] := by
  intro x1 x2 h hyp
  unfold F_X10_longestWaiter_b29 at hyp
  obtain ⟨v1, ev1, hyp⟩ := ib_n hyp
  refine V_iinc (pc := 29) C dX10_longestWaiter_29 (v := v1) rfl (by rw [ev1]; rfl) (by decide) rfl ?_
  refine V_goto (pc := 32) C dX10_longestWaiter_32 (tgt := 4) (by decide) ?_
  refine V_weak (lv' := [some (.ref o), some (.int x1), some (.int v1)]) (lvle_s (lvle_s (lvle_s lvle_0))) ?_
  exact hr4 x1 v1 h hyp
def F_X10_longestWaiter_b4 (N : Nat) (o : Nat) : Nat → Int32 → Int32 → PH → Option (Int32 × PH)
  | 0, _, _, _ => none
  | n + 1, x1, x2, h =>
    if (h.1 o 7) ≤ x2 then
      some (x1, h)
    else
      if inb x2 24 = true then
      if inb x1 24 = true then
      if (h.1 (o + 4) x2.toNatClampNeg) ≤ (h.1 (o + 4) x1.toNatClampNeg) then
        F_X10_longestWaiter_b29 N o (F_X10_longestWaiter_b4 N o n) x1 x2 h
      else
        F_X10_longestWaiter_b29 N o (F_X10_longestWaiter_b4 N o n) x2 x2 h
      else none
      else none
set_option maxRecDepth 20000 in
set_option maxHeartbeats 4000000 in
theorem T_X10_longestWaiter_b4 {X : CT} (C : CX X 103 cX10_longestWaiter 3 RX10 (some .int) 0 0) {r0 : Int32} {h0 : PH} {N : Nat} {o : Nat} (ho : IST o) : ∀ (n : Nat) (x1 : Int32) (x2 : Int32) (h : PH), F_X10_longestWaiter_b4 N o n x1 x2 h = some (r0, h0) → V X (QI X r0 h0) h 4 [some (.ref o), some (.int x1), some (.int x2)] [] := by
  intro n
  induction n with
  | zero =>
    intro x1 x2 h hyp
    cases hyp
  | succ n ih =>
    intro x1 x2 h hyp
    unfold F_X10_longestWaiter_b4 at hyp
    refine V_iload_n (pc := 4) C dX10_longestWaiter_4 rfl ?_
    refine V_aload_n (pc := 5) C dX10_longestWaiter_5 rfl ?_
    refine V_getI (pc := 6) C dX10_longestWaiter_6 lf_X10_127 (fkT_7 ho) ?_
    refine V_icmp_ge (pc := 9) C dX10_longestWaiter_9 (tgt := 35) (by decide) (fun q1 => ?_) (fun q1 => ?_)
    · replace hyp := (if_pos q1).symm.trans hyp
      refine V_iload_n (pc := 35) C dX10_longestWaiter_35 rfl ?_
      cases hyp
      exact V_iret C dX10_longestWaiter_36
    · replace hyp := (if_neg q1).symm.trans hyp
      refine V_aload_n (pc := 12) C dX10_longestWaiter_12 rfl ?_
      refine V_getR (pc := 13) C dX10_longestWaiter_13 lf_X10_21 (fkT_3 ho) ?_
      refine V_iload_n (pc := 16) C dX10_longestWaiter_16 rfl ?_
      obtain ⟨g2, hyp⟩ := gd_n hyp
      refine V_iald (pc := 17) C dX10_longestWaiter_17 (akT_4 ho) g2 ?_
      refine V_aload_n (pc := 18) C dX10_longestWaiter_18 rfl ?_
      refine V_getR (pc := 19) C dX10_longestWaiter_19 lf_X10_21 (fkT_3 ho) ?_
      refine V_iload_n (pc := 22) C dX10_longestWaiter_22 rfl ?_
      obtain ⟨g3, hyp⟩ := gd_n hyp
      refine V_iald (pc := 23) C dX10_longestWaiter_23 (akT_4 ho) g3 ?_
      refine V_icmp_le (pc := 24) C dX10_longestWaiter_24 (tgt := 29) (by decide) (fun q4 => ?_) (fun q4 => ?_)
      · replace hyp := (if_pos q4).symm.trans hyp
        refine V_weak (lv' := [some (.ref o), some (.int x1), some (.int x2)]) (lvle_s (lvle_s (lvle_s lvle_0))) ?_
        exact (T_X10_longestWaiter_b29 C ho ih) x1 x2 h hyp
      · replace hyp := (if_neg q4).symm.trans hyp
        refine V_iload_n (pc := 27) C dX10_longestWaiter_27 rfl ?_
        refine V_istore_n (pc := 28) C dX10_longestWaiter_28 (by decide) rfl ?_
        refine V_weak (lv' := [some (.ref o), some (.int x2), some (.int x2)]) (lvle_s (lvle_s (lvle_s lvle_0))) ?_
        exact (T_X10_longestWaiter_b29 C ho ih) x2 x2 h hyp
def F_X10_longestWaiter (N : Nat) (o : Nat) (h : PH) : Option (Int32 × PH) :=
  F_X10_longestWaiter_b4 N o N (0 : Int32) (1 : Int32) h
set_option maxRecDepth 20000 in
set_option maxHeartbeats 4000000 in
theorem M_X10_longestWaiter (E : EV) {N : Nat} {o : Nat} (ho : IST o) {r : Int32} {h h2 : PH} (hyp : F_X10_longestWaiter N o h = some (r, h2)) : MI E 103 yX10_longestWaiter cX10_longestWaiter 3 (some .int) 0 0 [.ref o] h r h2 := by
  refine MI.of 2 (by decide) rfl (fun X e1 C => ?_)
  subst e1
  replace C : CX X 103 cX10_longestWaiter 3 RX10 (some .int) 0 0 := C
  show V X _ h 0 [some (.ref o), none, none] []
  unfold F_X10_longestWaiter at hyp
  refine V_iconst (pc := 0) C dX10_longestWaiter_0 (v := 0) (by decide) ?_
  refine V_istore_n (pc := 1) C dX10_longestWaiter_1 (by decide) rfl ?_
  refine V_iconst (pc := 2) C dX10_longestWaiter_2 (v := 1) (by decide) ?_
  refine V_istore_n (pc := 3) C dX10_longestWaiter_3 (by decide) rfl ?_
  refine V_weak (lv' := [some (.ref o), some (.int (0 : Int32)), some (.int (1 : Int32))]) (lvle_s (lvle_s (lvle_s lvle_0))) ?_
  exact (T_X10_longestWaiter_b4 C ho) N (0 : Int32) (1 : Int32) h hyp
theorem dX10_howManyOut_0 : decode cX10_howManyOut 0 = .ok (.aload_n 0, 1) := by decide +kernel
theorem dX10_howManyOut_1 : decode cX10_howManyOut 1 = .ok (.getfield 127, 3) := by decide +kernel
theorem dX10_howManyOut_4 : decode cX10_howManyOut 4 = .ok (.aload_n 0, 1) := by decide +kernel
theorem dX10_howManyOut_5 : decode cX10_howManyOut 5 = .ok (.getfield 101, 3) := by decide +kernel
theorem dX10_howManyOut_8 : decode cX10_howManyOut 8 = .ok (.invokestatic 169, 3) := by decide +kernel
theorem dX10_howManyOut_11 : decode cX10_howManyOut 11 = .ok (.isub, 1) := by decide +kernel
theorem dX10_howManyOut_12 : decode cX10_howManyOut 12 = .ok (.ireturn, 1) := by decide +kernel
def F_X10_howManyOut (o : Nat) (h : PH) : Option (Int32 × PH) :=
  bI (F_J6_bitCount_0f7a4 (h.1 o 18) h) fun r1 h2 =>
  some ((h.1 o 7) - r1, h2)
set_option maxRecDepth 20000 in
set_option maxHeartbeats 4000000 in
theorem M_X10_howManyOut (E : EV) {o : Nat} (ho : IST o) {r : Int32} {h h2 : PH} (hyp : F_X10_howManyOut o h = some (r, h2)) : MI E 103 yX10_howManyOut cX10_howManyOut 1 (some .int) 1 20 [.ref o] h r h2 := by
  refine MI.of 0 (by decide) rfl (fun X e1 C => ?_)
  subst e1
  replace C : CX X 103 cX10_howManyOut 1 RX10 (some .int) 1 20 := C
  show V X _ h 0 [some (.ref o)] []
  unfold F_X10_howManyOut at hyp
  refine V_aload_n (pc := 0) C dX10_howManyOut_0 rfl ?_
  refine V_getI (pc := 1) C dX10_howManyOut_1 lf_X10_127 (fkT_7 ho) ?_
  refine V_aload_n (pc := 4) C dX10_howManyOut_4 rfl ?_
  refine V_getI (pc := 5) C dX10_howManyOut_5 lf_X10_101 (fkT_18 ho) ?_
  obtain ⟨r1, h2, eh2, hyp⟩ := bI_n hyp
  refine V_statI (pc := 8) C dX10_howManyOut_8 lm_X10_169 ms_J6_bitCount_0f7a4 (M_J6_bitCount_0f7a4 _ eh2) rfl pd_J6_bitCount_0f7a4 (by decide) (by decide) (by decide) (As := [.int (h.1 o 18)]) (rest := [.int (h.1 o 7)]) rfl (Nat.le_of_ble_eq_true rfl) ?_
  refine V_isub (pc := 11) C dX10_howManyOut_11 ?_
  cases hyp
  exact V_iret C dX10_howManyOut_12
