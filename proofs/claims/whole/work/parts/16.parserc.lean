theorem dX5_circuitLine_0 : decode cX5_circuitLine 0 = .ok (.aload_n 0, 1) := by decide +kernel
theorem dX5_circuitLine_1 : decode cX5_circuitLine 1 = .ok (.getfield 35, 3) := by decide +kernel
theorem dX5_circuitLine_4 : decode cX5_circuitLine 4 = .ok (.bipush 17, 2) := by decide +kernel
theorem dX5_circuitLine_6 : decode cX5_circuitLine 6 = .ok (.if_icmp .ne 7, 3) := by decide +kernel
theorem dX5_circuitLine_9 : decode cX5_circuitLine 9 = .ok (.iconst 1, 1) := by decide +kernel
theorem dX5_circuitLine_10 : decode cX5_circuitLine 10 = .ok (.goto 4, 3) := by decide +kernel
theorem dX5_circuitLine_13 : decode cX5_circuitLine 13 = .ok (.iconst 0, 1) := by decide +kernel
theorem dX5_circuitLine_14 : decode cX5_circuitLine 14 = .ok (.istore_n 1, 1) := by decide +kernel
theorem dX5_circuitLine_15 : decode cX5_circuitLine 15 = .ok (.aload_n 0, 1) := by decide +kernel
theorem dX5_circuitLine_16 : decode cX5_circuitLine 16 = .ok (.invokevirtual 88, 3) := by decide +kernel
theorem dX5_circuitLine_19 : decode cX5_circuitLine 19 = .ok (.istore_n 2, 1) := by decide +kernel
theorem dX5_circuitLine_20 : decode cX5_circuitLine 20 = .ok (.aload_n 0, 1) := by decide +kernel
theorem dX5_circuitLine_21 : decode cX5_circuitLine 21 = .ok (.getfield 31, 3) := by decide +kernel
theorem dX5_circuitLine_24 : decode cX5_circuitLine 24 = .ok (.ifCond .eq 4, 3) := by decide +kernel
theorem dX5_circuitLine_27 : decode cX5_circuitLine 27 = .ok (.return_, 1) := by decide +kernel
theorem dX5_circuitLine_28 : decode cX5_circuitLine 28 = .ok (.aload_n 0, 1) := by decide +kernel
theorem dX5_circuitLine_29 : decode cX5_circuitLine 29 = .ok (.invokevirtual 71, 3) := by decide +kernel
theorem dX5_circuitLine_32 : decode cX5_circuitLine 32 = .ok (.iload_n 1, 1) := by decide +kernel
theorem dX5_circuitLine_33 : decode cX5_circuitLine 33 = .ok (.ifCond .ne 9, 3) := by decide +kernel
theorem dX5_circuitLine_36 : decode cX5_circuitLine 36 = .ok (.aload_n 0, 1) := by decide +kernel
theorem dX5_circuitLine_37 : decode cX5_circuitLine 37 = .ok (.bipush 7, 2) := by decide +kernel
theorem dX5_circuitLine_39 : decode cX5_circuitLine 39 = .ok (.invokevirtual 52, 3) := by decide +kernel
theorem dX5_circuitLine_42 : decode cX5_circuitLine 42 = .ok (.aload_n 0, 1) := by decide +kernel
theorem dX5_circuitLine_43 : decode cX5_circuitLine 43 = .ok (.getfield 12, 3) := by decide +kernel
theorem dX5_circuitLine_46 : decode cX5_circuitLine 46 = .ok (.iload_n 2, 1) := by decide +kernel
theorem dX5_circuitLine_47 : decode cX5_circuitLine 47 = .ok (.invokevirtual 41, 3) := by decide +kernel
theorem dX5_circuitLine_50 : decode cX5_circuitLine 50 = .ok (.aload_n 0, 1) := by decide +kernel
theorem dX5_circuitLine_51 : decode cX5_circuitLine 51 = .ok (.iconst 0, 1) := by decide +kernel
theorem dX5_circuitLine_52 : decode cX5_circuitLine 52 = .ok (.iconst 0, 1) := by decide +kernel
theorem dX5_circuitLine_53 : decode cX5_circuitLine 53 = .ok (.invokevirtual 45, 3) := by decide +kernel
theorem dX5_circuitLine_56 : decode cX5_circuitLine 56 = .ok (.aload_n 0, 1) := by decide +kernel
theorem dX5_circuitLine_57 : decode cX5_circuitLine 57 = .ok (.getfield 12, 3) := by decide +kernel
theorem dX5_circuitLine_60 : decode cX5_circuitLine 60 = .ok (.iload_n 2, 1) := by decide +kernel
theorem dX5_circuitLine_61 : decode cX5_circuitLine 61 = .ok (.invokevirtual 49, 3) := by decide +kernel
theorem dX5_circuitLine_64 : decode cX5_circuitLine 64 = .ok (.aload_n 0, 1) := by decide +kernel
theorem dX5_circuitLine_65 : decode cX5_circuitLine 65 = .ok (.bipush 11, 2) := by decide +kernel
theorem dX5_circuitLine_67 : decode cX5_circuitLine 67 = .ok (.invokevirtual 52, 3) := by decide +kernel
theorem dX5_circuitLine_70 : decode cX5_circuitLine 70 = .ok (.return_, 1) := by decide +kernel
def F_X5_circuitLine_b42 (N : Nat) (x2 : Int32) (h : PH) : Option PH :=
  bV (F_X2_beginLine 4 x2 h) fun h2 =>
  bV (G_X5_expression N (0 : Int32) (0 : Int32) h2) fun h4 =>
  bV (F_X2_endLine 4 x2 h4) fun h6 =>
  bV (F_X5_expect (11 : Int32) h6) fun h8 =>
  some h8
set_option maxRecDepth 20000 in
set_option maxHeartbeats 4000000 in
theorem T_X5_circuitLine_b42 {X : CT} (C : CX X 103 cX5_circuitLine 3 RX5 none 161 4184) {h0 : PH} {N : Nat} : ∀ (x2 : Int32) (h : PH), F_X5_circuitLine_b42 N x2 h = some h0 → V X (QV X h0) h 42 [some (.ref 3), none, some (.int x2)] [] := by
  intro x2 h hyp
  unfold F_X5_circuitLine_b42 at hyp
  refine V_aload_n (pc := 42) C dX5_circuitLine_42 rfl ?_
  refine V_getR (pc := 43) C dX5_circuitLine_43 lf_X5_12 fk_3_0 ?_
  refine V_iload_n (pc := 46) C dX5_circuitLine_46 rfl ?_
  obtain ⟨h2, eh2, hyp⟩ := bV_n hyp
  refine V_callV (pc := 47) C dX5_circuitLine_47 lm_X5_41 mk_X2_beginLine ok_4 rfl (M_X2_beginLine _ isC_4 eh2) rfl pd_X2_beginLine (by decide) (by decide) (by decide) (As := [.int x2]) (rest := []) rfl (Nat.le_of_ble_eq_true rfl) ?_
  refine V_aload_n (pc := 50) C dX5_circuitLine_50 rfl ?_
  refine V_iconst (pc := 51) C dX5_circuitLine_51 (v := 0) (by decide) ?_
  refine V_iconst (pc := 52) C dX5_circuitLine_52 (v := 0) (by decide) ?_
  obtain ⟨h4, eh4, hyp⟩ := bV_n hyp
  refine V_callV (pc := 53) C dX5_circuitLine_53 lm_X5_45 mk_X5_expression ok_3 rfl (MG_X5_expression _ eh4) rfl pd_X5_expression (by decide) (by decide) (by decide) (As := [.int (0 : Int32), .int (0 : Int32)]) (rest := []) rfl (Nat.le_of_ble_eq_true rfl) ?_
  refine V_aload_n (pc := 56) C dX5_circuitLine_56 rfl ?_
  refine V_getR (pc := 57) C dX5_circuitLine_57 lf_X5_12 fk_3_0 ?_
  refine V_iload_n (pc := 60) C dX5_circuitLine_60 rfl ?_
  obtain ⟨h6, eh6, hyp⟩ := bV_n hyp
  refine V_callV (pc := 61) C dX5_circuitLine_61 lm_X5_49 mk_X2_endLine ok_4 rfl (M_X2_endLine _ isC_4 eh6) rfl pd_X2_endLine (by decide) (by decide) (by decide) (As := [.int x2]) (rest := []) rfl (Nat.le_of_ble_eq_true rfl) ?_
  refine V_aload_n (pc := 64) C dX5_circuitLine_64 rfl ?_
  refine V_bipush (pc := 65) C dX5_circuitLine_65 (v := 11) (by decide) ?_
  obtain ⟨h8, eh8, hyp⟩ := bV_n hyp
  refine V_callV (pc := 67) C dX5_circuitLine_67 lm_X5_52 mk_X5_expect ok_3 rfl (M_X5_expect _ eh8) rfl pd_X5_expect (by decide) (by decide) (by decide) (As := [.int (11 : Int32)]) (rest := []) rfl (Nat.le_of_ble_eq_true rfl) ?_
  cases hyp
  exact V_vret C dX5_circuitLine_70
def F_X5_circuitLine_b14 (N : Nat) (s0 : Int32) (h : PH) : Option PH :=
  bI (F_X5_lineTold  h) fun r1 h2 =>
  if (h2.1 3 5) = 0 then
    bV (F_X5_advance  h2) fun h5 =>
    if s0 = 0 then
      bV (F_X5_expect (7 : Int32) h5) fun h8 =>
      F_X5_circuitLine_b42 N r1 h8
    else
      F_X5_circuitLine_b42 N r1 h5
  else
    some h2
set_option maxRecDepth 20000 in
set_option maxHeartbeats 4000000 in
theorem T_X5_circuitLine_b14 {X : CT} (C : CX X 103 cX5_circuitLine 3 RX5 none 161 4184) {h0 : PH} {N : Nat} : ∀ (s0 : Int32) (h : PH), F_X5_circuitLine_b14 N s0 h = some h0 → V X (QV X h0) h 14 [some (.ref 3), none, none] [.int s0] := by
  intro s0 h hyp
  unfold F_X5_circuitLine_b14 at hyp
  refine V_istore_n (pc := 14) C dX5_circuitLine_14 (by decide) rfl ?_
  refine V_aload_n (pc := 15) C dX5_circuitLine_15 rfl ?_
  obtain ⟨r1, h2, eh2, hyp⟩ := bI_n hyp
  refine V_callI (pc := 16) C dX5_circuitLine_16 lm_X5_88 mk_X5_lineTold ok_3 rfl (M_X5_lineTold _ eh2) rfl pd_X5_lineTold (by decide) (by decide) (by decide) (As := []) (rest := []) rfl (Nat.le_of_ble_eq_true rfl) ?_
  refine V_istore_n (pc := 19) C dX5_circuitLine_19 (by decide) rfl ?_
  refine V_aload_n (pc := 20) C dX5_circuitLine_20 rfl ?_
  refine V_getI (pc := 21) C dX5_circuitLine_21 lf_X5_31 fk_3_5 ?_
  refine V_if_eq (pc := 24) C dX5_circuitLine_24 (tgt := 28) (by decide) (fun q3 => ?_) (fun q3 => ?_)
  · replace hyp := (if_pos q3).symm.trans hyp
    refine V_aload_n (pc := 28) C dX5_circuitLine_28 rfl ?_
    obtain ⟨h5, eh5, hyp⟩ := bV_n hyp
    refine V_callV (pc := 29) C dX5_circuitLine_29 lm_X5_71 mk_X5_advance ok_3 rfl (M_X5_advance _ eh5) rfl pd_X5_advance (by decide) (by decide) (by decide) (As := []) (rest := []) rfl (Nat.le_of_ble_eq_true rfl) ?_
    refine V_iload_n (pc := 32) C dX5_circuitLine_32 rfl ?_
    refine V_if_ne (pc := 33) C dX5_circuitLine_33 (tgt := 42) (by decide) (fun q6 => ?_) (fun q6 => ?_)
    · replace hyp := (if_neg q6).symm.trans hyp
      refine V_weak (lv' := [some (.ref 3), none, some (.int r1)]) (lvle_s (lvle_n (lvle_s lvle_0))) ?_
      exact (T_X5_circuitLine_b42 C) r1 h5 hyp
    · replace hyp := (if_pos q6).symm.trans hyp
      refine V_aload_n (pc := 36) C dX5_circuitLine_36 rfl ?_
      refine V_bipush (pc := 37) C dX5_circuitLine_37 (v := 7) (by decide) ?_
      obtain ⟨h8, eh8, hyp⟩ := bV_n hyp
      refine V_callV (pc := 39) C dX5_circuitLine_39 lm_X5_52 mk_X5_expect ok_3 rfl (M_X5_expect _ eh8) rfl pd_X5_expect (by decide) (by decide) (by decide) (As := [.int (7 : Int32)]) (rest := []) rfl (Nat.le_of_ble_eq_true rfl) ?_
      refine V_weak (lv' := [some (.ref 3), none, some (.int r1)]) (lvle_s (lvle_n (lvle_s lvle_0))) ?_
      exact (T_X5_circuitLine_b42 C) r1 h8 hyp
  · replace hyp := (if_neg q3).symm.trans hyp
    cases hyp
    exact V_vret C dX5_circuitLine_27
def F_X5_circuitLine (N : Nat) (h : PH) : Option PH :=
  if (h.1 3 3) = (17 : Int32) then
    F_X5_circuitLine_b14 N (1 : Int32) h
  else
    F_X5_circuitLine_b14 N (0 : Int32) h
set_option maxRecDepth 20000 in
set_option maxHeartbeats 4000000 in
theorem M_X5_circuitLine (E : EV) {N : Nat} {h h2 : PH} (hyp : F_X5_circuitLine N  h = some h2) : MV E 103 yX5_circuitLine cX5_circuitLine 3 none 161 4184 [.ref 3] h h2 := by
  refine MV.of 2 (by decide) rfl (fun X e1 C => ?_)
  subst e1
  replace C : CX X 103 cX5_circuitLine 3 RX5 none 161 4184 := C
  show V X _ h 0 [some (.ref 3), none, none] []
  unfold F_X5_circuitLine at hyp
  refine V_aload_n (pc := 0) C dX5_circuitLine_0 rfl ?_
  refine V_getI (pc := 1) C dX5_circuitLine_1 lf_X5_35 fk_3_3 ?_
  refine V_bipush (pc := 4) C dX5_circuitLine_4 (v := 17) (by decide) ?_
  refine V_icmp_ne (pc := 6) C dX5_circuitLine_6 (tgt := 13) (by decide) (fun q1 => ?_) (fun q1 => ?_)
  · replace hyp := (if_neg q1).symm.trans hyp
    refine V_iconst (pc := 13) C dX5_circuitLine_13 (v := 0) (by decide) ?_
    refine V_weak (lv' := [some (.ref 3), none, none]) (lvle_s (lvle_n (lvle_n lvle_0))) ?_
    exact (T_X5_circuitLine_b14 C) (0 : Int32) h hyp
  · replace hyp := (if_pos q1).symm.trans hyp
    refine V_iconst (pc := 9) C dX5_circuitLine_9 (v := 1) (by decide) ?_
    refine V_goto (pc := 10) C dX5_circuitLine_10 (tgt := 14) (by decide) ?_
    refine V_weak (lv' := [some (.ref 3), none, none]) (lvle_s (lvle_n (lvle_n lvle_0))) ?_
    exact (T_X5_circuitLine_b14 C) (1 : Int32) h hyp
theorem dX5_readCircuit_0 : decode cX5_readCircuit 0 = .ok (.aload_n 0, 1) := by decide +kernel
theorem dX5_readCircuit_1 : decode cX5_readCircuit 1 = .ok (.iconst 0, 1) := by decide +kernel
theorem dX5_readCircuit_2 : decode cX5_readCircuit 2 = .ok (.iload_n 1, 1) := by decide +kernel
theorem dX5_readCircuit_3 : decode cX5_readCircuit 3 = .ok (.invokevirtual 27, 3) := by decide +kernel
theorem dX5_readCircuit_6 : decode cX5_readCircuit 6 = .ok (.iconst 0, 1) := by decide +kernel
theorem dX5_readCircuit_7 : decode cX5_readCircuit 7 = .ok (.istore_n 2, 1) := by decide +kernel
theorem dX5_readCircuit_8 : decode cX5_readCircuit 8 = .ok (.iload_n 2, 1) := by decide +kernel
theorem dX5_readCircuit_9 : decode cX5_readCircuit 9 = .ok (.sipush 1000, 3) := by decide +kernel
theorem dX5_readCircuit_12 : decode cX5_readCircuit 12 = .ok (.if_icmp .ge 27, 3) := by decide +kernel
theorem dX5_readCircuit_15 : decode cX5_readCircuit 15 = .ok (.aload_n 0, 1) := by decide +kernel
theorem dX5_readCircuit_16 : decode cX5_readCircuit 16 = .ok (.getfield 31, 3) := by decide +kernel
theorem dX5_readCircuit_19 : decode cX5_readCircuit 19 = .ok (.ifCond .ne 20, 3) := by decide +kernel
theorem dX5_readCircuit_22 : decode cX5_readCircuit 22 = .ok (.aload_n 0, 1) := by decide +kernel
theorem dX5_readCircuit_23 : decode cX5_readCircuit 23 = .ok (.getfield 35, 3) := by decide +kernel
theorem dX5_readCircuit_26 : decode cX5_readCircuit 26 = .ok (.ifCond .eq 13, 3) := by decide +kernel
theorem dX5_readCircuit_29 : decode cX5_readCircuit 29 = .ok (.aload_n 0, 1) := by decide +kernel
theorem dX5_readCircuit_30 : decode cX5_readCircuit 30 = .ok (.invokevirtual 38, 3) := by decide +kernel
theorem dX5_readCircuit_33 : decode cX5_readCircuit 33 = .ok (.iinc 2 1, 3) := by decide +kernel
theorem dX5_readCircuit_36 : decode cX5_readCircuit 36 = .ok (.goto (-28), 3) := by decide +kernel
theorem dX5_readCircuit_39 : decode cX5_readCircuit 39 = .ok (.aload_n 0, 1) := by decide +kernel
theorem dX5_readCircuit_40 : decode cX5_readCircuit 40 = .ok (.getfield 31, 3) := by decide +kernel
theorem dX5_readCircuit_43 : decode cX5_readCircuit 43 = .ok (.ireturn, 1) := by decide +kernel
def F_X5_readCircuit_b8 (N : Nat) : Nat → Int32 → PH → Option (Int32 × PH)
  | 0, _, _ => none
  | n + 1, x2, h =>
    if (1000 : Int32) ≤ x2 then
      some (h.1 3 5, h)
    else
      if (h.1 3 5) = 0 then
        if (h.1 3 3) = 0 then
          some (h.1 3 5, h)
        else
          bV (F_X5_circuitLine N  h) fun h5 =>
          ib (x2 + (1 : Int32)) fun v6 =>
          F_X5_readCircuit_b8 N n v6 h5
      else
        some (h.1 3 5, h)
set_option maxRecDepth 20000 in
set_option maxHeartbeats 4000000 in
theorem T_X5_readCircuit_b8 {X : CT} (C : CX X 103 cX5_readCircuit 3 RX5 (some .int) 162 4206) {r0 : Int32} {h0 : PH} {N : Nat} : ∀ (n : Nat) (x2 : Int32) (h : PH), F_X5_readCircuit_b8 N n x2 h = some (r0, h0) → V X (QI X r0 h0) h 8 [some (.ref 3), none, some (.int x2)] [] := by
  intro n
  induction n with
  | zero =>
    intro x2 h hyp
    cases hyp
  | succ n ih =>
    intro x2 h hyp
    unfold F_X5_readCircuit_b8 at hyp
    refine V_iload_n (pc := 8) C dX5_readCircuit_8 rfl ?_
    refine V_sipush (pc := 9) C dX5_readCircuit_9 (v := 1000) (by decide) ?_
    refine V_icmp_ge (pc := 12) C dX5_readCircuit_12 (tgt := 39) (by decide) (fun q1 => ?_) (fun q1 => ?_)
    · replace hyp := (if_pos q1).symm.trans hyp
      refine V_aload_n (pc := 39) C dX5_readCircuit_39 rfl ?_
      refine V_getI (pc := 40) C dX5_readCircuit_40 lf_X5_31 fk_3_5 ?_
      cases hyp
      exact V_iret C dX5_readCircuit_43
    · replace hyp := (if_neg q1).symm.trans hyp
      refine V_aload_n (pc := 15) C dX5_readCircuit_15 rfl ?_
      refine V_getI (pc := 16) C dX5_readCircuit_16 lf_X5_31 fk_3_5 ?_
      refine V_if_ne (pc := 19) C dX5_readCircuit_19 (tgt := 39) (by decide) (fun q2 => ?_) (fun q2 => ?_)
      · replace hyp := (if_neg q2).symm.trans hyp
        refine V_aload_n (pc := 39) C dX5_readCircuit_39 rfl ?_
        refine V_getI (pc := 40) C dX5_readCircuit_40 lf_X5_31 fk_3_5 ?_
        cases hyp
        exact V_iret C dX5_readCircuit_43
      · replace hyp := (if_pos q2).symm.trans hyp
        refine V_aload_n (pc := 22) C dX5_readCircuit_22 rfl ?_
        refine V_getI (pc := 23) C dX5_readCircuit_23 lf_X5_35 fk_3_3 ?_
        refine V_if_eq (pc := 26) C dX5_readCircuit_26 (tgt := 39) (by decide) (fun q3 => ?_) (fun q3 => ?_)
        · replace hyp := (if_pos q3).symm.trans hyp
          refine V_aload_n (pc := 39) C dX5_readCircuit_39 rfl ?_
          refine V_getI (pc := 40) C dX5_readCircuit_40 lf_X5_31 fk_3_5 ?_
          cases hyp
          exact V_iret C dX5_readCircuit_43
        · replace hyp := (if_neg q3).symm.trans hyp
          refine V_aload_n (pc := 29) C dX5_readCircuit_29 rfl ?_
          obtain ⟨h5, eh5, hyp⟩ := bV_n hyp
          refine V_callV (pc := 30) C dX5_readCircuit_30 lm_X5_38 mk_X5_circuitLine ok_3 rfl (M_X5_circuitLine _ eh5) rfl pd_X5_circuitLine (by decide) (by decide) (by decide) (As := []) (rest := []) rfl (Nat.le_of_ble_eq_true rfl) ?_
          obtain ⟨v6, ev6, hyp⟩ := ib_n hyp
          refine V_iinc (pc := 33) C dX5_readCircuit_33 (v := v6) rfl (by rw [ev6]; rfl) (by decide) rfl ?_
          refine V_goto (pc := 36) C dX5_readCircuit_36 (tgt := 8) (by decide) ?_
          refine V_weak (lv' := [some (.ref 3), none, some (.int v6)]) (lvle_s (lvle_n (lvle_s lvle_0))) ?_
          exact ih v6 h5 hyp
def F_X5_readCircuit (N : Nat) (a1 : Int32) (h : PH) : Option (Int32 × PH) :=
  bV (F_X5_start N (0 : Int32) a1 h) fun h2 =>
  F_X5_readCircuit_b8 N N (0 : Int32) h2
set_option maxRecDepth 20000 in
set_option maxHeartbeats 4000000 in
theorem M_X5_readCircuit (E : EV) {N : Nat} {a1 : Int32} {r : Int32} {h h2 : PH} (hyp : F_X5_readCircuit N a1 h = some (r, h2)) : MI E 103 yX5_readCircuit cX5_readCircuit 3 (some .int) 162 4206 [.ref 3, .int a1] h r h2 := by
  refine MI.of 1 (by decide) rfl (fun X e1 C => ?_)
  subst e1
  replace C : CX X 103 cX5_readCircuit 3 RX5 (some .int) 162 4206 := C
  show V X _ h 0 [some (.ref 3), some (.int a1), none] []
  unfold F_X5_readCircuit at hyp
  refine V_aload_n (pc := 0) C dX5_readCircuit_0 rfl ?_
  refine V_iconst (pc := 1) C dX5_readCircuit_1 (v := 0) (by decide) ?_
  refine V_iload_n (pc := 2) C dX5_readCircuit_2 rfl ?_
  obtain ⟨h2, eh2, hyp⟩ := bV_n hyp
  refine V_callV (pc := 3) C dX5_readCircuit_3 lm_X5_27 mk_X5_start ok_3 rfl (M_X5_start _ eh2) rfl pd_X5_start (by decide) (by decide) (by decide) (As := [.int (0 : Int32), .int a1]) (rest := []) rfl (Nat.le_of_ble_eq_true rfl) ?_
  refine V_iconst (pc := 6) C dX5_readCircuit_6 (v := 0) (by decide) ?_
  refine V_istore_n (pc := 7) C dX5_readCircuit_7 (by decide) rfl ?_
  refine V_weak (lv' := [some (.ref 3), none, some (.int (0 : Int32))]) (lvle_s (lvle_n (lvle_s lvle_0))) ?_
  exact (T_X5_readCircuit_b8 C) N (0 : Int32) h2 hyp
theorem dX5_readRule_0 : decode cX5_readRule 0 = .ok (.aload_n 0, 1) := by decide +kernel
theorem dX5_readRule_1 : decode cX5_readRule 1 = .ok (.iconst 1, 1) := by decide +kernel
theorem dX5_readRule_2 : decode cX5_readRule 2 = .ok (.iconst 0, 1) := by decide +kernel
theorem dX5_readRule_3 : decode cX5_readRule 3 = .ok (.invokevirtual 27, 3) := by decide +kernel
theorem dX5_readRule_6 : decode cX5_readRule 6 = .ok (.aload_n 0, 1) := by decide +kernel
theorem dX5_readRule_7 : decode cX5_readRule 7 = .ok (.getfield 35, 3) := by decide +kernel
theorem dX5_readRule_10 : decode cX5_readRule 10 = .ok (.ifCond .ne 5, 3) := by decide +kernel
theorem dX5_readRule_13 : decode cX5_readRule 13 = .ok (.iconst 0, 1) := by decide +kernel
theorem dX5_readRule_14 : decode cX5_readRule 14 = .ok (.ireturn, 1) := by decide +kernel
theorem dX5_readRule_15 : decode cX5_readRule 15 = .ok (.aload_n 0, 1) := by decide +kernel
theorem dX5_readRule_16 : decode cX5_readRule 16 = .ok (.getfield 12, 3) := by decide +kernel
theorem dX5_readRule_19 : decode cX5_readRule 19 = .ok (.iconst 0, 1) := by decide +kernel
theorem dX5_readRule_20 : decode cX5_readRule 20 = .ok (.invokevirtual 41, 3) := by decide +kernel
theorem dX5_readRule_23 : decode cX5_readRule 23 = .ok (.aload_n 0, 1) := by decide +kernel
theorem dX5_readRule_24 : decode cX5_readRule 24 = .ok (.iconst 0, 1) := by decide +kernel
theorem dX5_readRule_25 : decode cX5_readRule 25 = .ok (.iconst 0, 1) := by decide +kernel
theorem dX5_readRule_26 : decode cX5_readRule 26 = .ok (.invokevirtual 45, 3) := by decide +kernel
theorem dX5_readRule_29 : decode cX5_readRule 29 = .ok (.aload_n 0, 1) := by decide +kernel
theorem dX5_readRule_30 : decode cX5_readRule 30 = .ok (.getfield 12, 3) := by decide +kernel
theorem dX5_readRule_33 : decode cX5_readRule 33 = .ok (.iconst 0, 1) := by decide +kernel
theorem dX5_readRule_34 : decode cX5_readRule 34 = .ok (.invokevirtual 49, 3) := by decide +kernel
theorem dX5_readRule_37 : decode cX5_readRule 37 = .ok (.aload_n 0, 1) := by decide +kernel
theorem dX5_readRule_38 : decode cX5_readRule 38 = .ok (.iconst 0, 1) := by decide +kernel
theorem dX5_readRule_39 : decode cX5_readRule 39 = .ok (.invokevirtual 52, 3) := by decide +kernel
theorem dX5_readRule_42 : decode cX5_readRule 42 = .ok (.aload_n 0, 1) := by decide +kernel
theorem dX5_readRule_43 : decode cX5_readRule 43 = .ok (.getfield 31, 3) := by decide +kernel
theorem dX5_readRule_46 : decode cX5_readRule 46 = .ok (.ireturn, 1) := by decide +kernel
def F_X5_readRule (N : Nat) (h : PH) : Option (Int32 × PH) :=
  bV (F_X5_start N (1 : Int32) (0 : Int32) h) fun h2 =>
  if (h2.1 3 3) = 0 then
    some ((0 : Int32), h2)
  else
    bV (F_X2_beginLine 4 (0 : Int32) h2) fun h5 =>
    bV (G_X5_expression N (0 : Int32) (0 : Int32) h5) fun h7 =>
    bV (F_X2_endLine 4 (0 : Int32) h7) fun h9 =>
    bV (F_X5_expect (0 : Int32) h9) fun h11 =>
    some (h11.1 3 5, h11)
set_option maxRecDepth 20000 in
set_option maxHeartbeats 4000000 in
theorem M_X5_readRule (E : EV) {N : Nat} {r : Int32} {h h2 : PH} (hyp : F_X5_readRule N  h = some (r, h2)) : MI E 103 yX5_readRule cX5_readRule 1 (some .int) 161 4184 [.ref 3] h r h2 := by
  refine MI.of 0 (by decide) rfl (fun X e1 C => ?_)
  subst e1
  replace C : CX X 103 cX5_readRule 1 RX5 (some .int) 161 4184 := C
  show V X _ h 0 [some (.ref 3)] []
  unfold F_X5_readRule at hyp
  refine V_aload_n (pc := 0) C dX5_readRule_0 rfl ?_
  refine V_iconst (pc := 1) C dX5_readRule_1 (v := 1) (by decide) ?_
  refine V_iconst (pc := 2) C dX5_readRule_2 (v := 0) (by decide) ?_
  obtain ⟨h2, eh2, hyp⟩ := bV_n hyp
  refine V_callV (pc := 3) C dX5_readRule_3 lm_X5_27 mk_X5_start ok_3 rfl (M_X5_start _ eh2) rfl pd_X5_start (by decide) (by decide) (by decide) (As := [.int (1 : Int32), .int (0 : Int32)]) (rest := []) rfl (Nat.le_of_ble_eq_true rfl) ?_
  refine V_aload_n (pc := 6) C dX5_readRule_6 rfl ?_
  refine V_getI (pc := 7) C dX5_readRule_7 lf_X5_35 fk_3_3 ?_
  refine V_if_ne (pc := 10) C dX5_readRule_10 (tgt := 15) (by decide) (fun q3 => ?_) (fun q3 => ?_)
  · replace hyp := (if_neg q3).symm.trans hyp
    refine V_aload_n (pc := 15) C dX5_readRule_15 rfl ?_
    refine V_getR (pc := 16) C dX5_readRule_16 lf_X5_12 fk_3_0 ?_
    refine V_iconst (pc := 19) C dX5_readRule_19 (v := 0) (by decide) ?_
    obtain ⟨h5, eh5, hyp⟩ := bV_n hyp
    refine V_callV (pc := 20) C dX5_readRule_20 lm_X5_41 mk_X2_beginLine ok_4 rfl (M_X2_beginLine _ isC_4 eh5) rfl pd_X2_beginLine (by decide) (by decide) (by decide) (As := [.int (0 : Int32)]) (rest := []) rfl (Nat.le_of_ble_eq_true rfl) ?_
    refine V_aload_n (pc := 23) C dX5_readRule_23 rfl ?_
    refine V_iconst (pc := 24) C dX5_readRule_24 (v := 0) (by decide) ?_
    refine V_iconst (pc := 25) C dX5_readRule_25 (v := 0) (by decide) ?_
    obtain ⟨h7, eh7, hyp⟩ := bV_n hyp
    refine V_callV (pc := 26) C dX5_readRule_26 lm_X5_45 mk_X5_expression ok_3 rfl (MG_X5_expression _ eh7) rfl pd_X5_expression (by decide) (by decide) (by decide) (As := [.int (0 : Int32), .int (0 : Int32)]) (rest := []) rfl (Nat.le_of_ble_eq_true rfl) ?_
    refine V_aload_n (pc := 29) C dX5_readRule_29 rfl ?_
    refine V_getR (pc := 30) C dX5_readRule_30 lf_X5_12 fk_3_0 ?_
    refine V_iconst (pc := 33) C dX5_readRule_33 (v := 0) (by decide) ?_
    obtain ⟨h9, eh9, hyp⟩ := bV_n hyp
    refine V_callV (pc := 34) C dX5_readRule_34 lm_X5_49 mk_X2_endLine ok_4 rfl (M_X2_endLine _ isC_4 eh9) rfl pd_X2_endLine (by decide) (by decide) (by decide) (As := [.int (0 : Int32)]) (rest := []) rfl (Nat.le_of_ble_eq_true rfl) ?_
    refine V_aload_n (pc := 37) C dX5_readRule_37 rfl ?_
    refine V_iconst (pc := 38) C dX5_readRule_38 (v := 0) (by decide) ?_
    obtain ⟨h11, eh11, hyp⟩ := bV_n hyp
    refine V_callV (pc := 39) C dX5_readRule_39 lm_X5_52 mk_X5_expect ok_3 rfl (M_X5_expect _ eh11) rfl pd_X5_expect (by decide) (by decide) (by decide) (As := [.int (0 : Int32)]) (rest := []) rfl (Nat.le_of_ble_eq_true rfl) ?_
    refine V_aload_n (pc := 42) C dX5_readRule_42 rfl ?_
    refine V_getI (pc := 43) C dX5_readRule_43 lf_X5_31 fk_3_5 ?_
    cases hyp
    exact V_iret C dX5_readRule_46
  · replace hyp := (if_pos q3).symm.trans hyp
    refine V_iconst (pc := 13) C dX5_readRule_13 (v := 0) (by decide) ?_
    cases hyp
    exact V_iret C dX5_readRule_14
