theorem dX11_startCircuit_0 : decode cX11_startCircuit 0 = .ok (.aload_n 0, 1) := by decide +kernel
theorem dX11_startCircuit_1 : decode cX11_startCircuit 1 = .ok (.getfield 28, 3) := by decide +kernel
theorem dX11_startCircuit_4 : decode cX11_startCircuit 4 = .ok (.invokevirtual 129, 3) := by decide +kernel
theorem dX11_startCircuit_7 : decode cX11_startCircuit 7 = .ok (.aload_n 0, 1) := by decide +kernel
theorem dX11_startCircuit_8 : decode cX11_startCircuit 8 = .ok (.getfield 37, 3) := by decide +kernel
theorem dX11_startCircuit_11 : decode cX11_startCircuit 11 = .ok (.invokevirtual 316, 3) := by decide +kernel
theorem dX11_startCircuit_14 : decode cX11_startCircuit 14 = .ok (.aload_n 0, 1) := by decide +kernel
theorem dX11_startCircuit_15 : decode cX11_startCircuit 15 = .ok (.getfield 46, 3) := by decide +kernel
theorem dX11_startCircuit_18 : decode cX11_startCircuit 18 = .ok (.invokevirtual 319, 3) := by decide +kernel
theorem dX11_startCircuit_21 : decode cX11_startCircuit 21 = .ok (.return_, 1) := by decide +kernel
def F_X11_startCircuit (h : PH) : Option PH :=
  bV (F_X4_restart  h) fun h2 =>
  bV (F_X0_forget  h2) fun h4 =>
  bV (F_X3_forget  h4) fun h6 =>
  some h6
set_option maxRecDepth 20000 in
set_option maxHeartbeats 4000000 in
theorem M_X11_startCircuit (E : EV) {h h2 : PH} (hyp : F_X11_startCircuit  h = some h2) : MV E 103 yX11_startCircuit cX11_startCircuit 1 none 1 20 [.ref 0] h h2 := by
  refine MV.of 0 (by decide) rfl (fun X e1 C => ?_)
  subst e1
  replace C : CX X 103 cX11_startCircuit 1 RX11 none 1 20 := C
  show V X _ h 0 [some (.ref 0)] []
  unfold F_X11_startCircuit at hyp
  refine V_aload_n (pc := 0) C dX11_startCircuit_0 rfl ?_
  refine V_getR (pc := 1) C dX11_startCircuit_1 lf_X11_28 fk_0_2 ?_
  obtain ⟨h2, eh2, hyp⟩ := bV_n hyp
  refine V_callV (pc := 4) C dX11_startCircuit_4 lm_X11_129 mk_X4_restart ok_14 rfl (M_X4_restart _ eh2) rfl pd_X4_restart (by decide) (by decide) (by decide) (As := []) (rest := []) rfl (Nat.le_of_ble_eq_true rfl) ?_
  refine V_aload_n (pc := 7) C dX11_startCircuit_7 rfl ?_
  refine V_getR (pc := 8) C dX11_startCircuit_8 lf_X11_37 fk_0_3 ?_
  obtain ⟨h4, eh4, hyp⟩ := bV_n hyp
  refine V_callV (pc := 11) C dX11_startCircuit_11 lm_X11_316 mk_X0_forget ok_21 rfl (M_X0_forget _ eh4) rfl pd_X0_forget (by decide) (by decide) (by decide) (As := []) (rest := []) rfl (Nat.le_of_ble_eq_true rfl) ?_
  refine V_aload_n (pc := 14) C dX11_startCircuit_14 rfl ?_
  refine V_getR (pc := 15) C dX11_startCircuit_15 lf_X11_46 fk_0_4 ?_
  obtain ⟨h6, eh6, hyp⟩ := bV_n hyp
  refine V_callV (pc := 18) C dX11_startCircuit_18 lm_X11_319 mk_X3_forget ok_39 rfl (M_X3_forget _ eh6) rfl pd_X3_forget (by decide) (by decide) (by decide) (As := []) (rest := []) rfl (Nat.le_of_ble_eq_true rfl) ?_
  cases hyp
  exact V_vret C dX11_startCircuit_21
theorem dX11_startHouse_0 : decode cX11_startHouse 0 = .ok (.aload_n 0, 1) := by decide +kernel
theorem dX11_startHouse_1 : decode cX11_startHouse 1 = .ok (.getfield 28, 3) := by decide +kernel
theorem dX11_startHouse_4 : decode cX11_startHouse 4 = .ok (.iload_n 1, 1) := by decide +kernel
theorem dX11_startHouse_5 : decode cX11_startHouse 5 = .ok (.putfield 92, 3) := by decide +kernel
theorem dX11_startHouse_8 : decode cX11_startHouse 8 = .ok (.aload_n 0, 1) := by decide +kernel
theorem dX11_startHouse_9 : decode cX11_startHouse 9 = .ok (.getfield 28, 3) := by decide +kernel
theorem dX11_startHouse_12 : decode cX11_startHouse 12 = .ok (.getfield 99, 3) := by decide +kernel
theorem dX11_startHouse_15 : decode cX11_startHouse 15 = .ok (.invokevirtual 311, 3) := by decide +kernel
theorem dX11_startHouse_18 : decode cX11_startHouse 18 = .ok (.aload_n 0, 1) := by decide +kernel
theorem dX11_startHouse_19 : decode cX11_startHouse 19 = .ok (.invokevirtual 112, 3) := by decide +kernel
theorem dX11_startHouse_22 : decode cX11_startHouse 22 = .ok (.aload_n 0, 1) := by decide +kernel
theorem dX11_startHouse_23 : decode cX11_startHouse 23 = .ok (.getfield 53, 3) := by decide +kernel
theorem dX11_startHouse_26 : decode cX11_startHouse 26 = .ok (.iload_n 1, 1) := by decide +kernel
theorem dX11_startHouse_27 : decode cX11_startHouse 27 = .ok (.invokevirtual 314, 3) := by decide +kernel
theorem dX11_startHouse_30 : decode cX11_startHouse 30 = .ok (.aload_n 0, 1) := by decide +kernel
theorem dX11_startHouse_31 : decode cX11_startHouse 31 = .ok (.getfield 76, 3) := by decide +kernel
theorem dX11_startHouse_34 : decode cX11_startHouse 34 = .ok (.invokevirtual 315, 3) := by decide +kernel
theorem dX11_startHouse_37 : decode cX11_startHouse 37 = .ok (.return_, 1) := by decide +kernel
def F_X11_startHouse (N : Nat) (a1 : Int32) (h : PH) : Option PH :=
  hb (hs h 14 1 a1) fun h1 =>
  bV (F_X2_clear N 15 h1) fun h3 =>
  bV (F_X11_startCircuit  h3) fun h5 =>
  bV (F_X6_startHouse N a1 h5) fun h7 =>
  bV (F_X7_clear  h7) fun h9 =>
  some h9
set_option maxRecDepth 20000 in
set_option maxHeartbeats 4000000 in
theorem M_X11_startHouse (E : EV) {N : Nat} {a1 : Int32} {h h2 : PH} (hyp : F_X11_startHouse N a1 h = some h2) : MV E 103 yX11_startHouse cX11_startHouse 2 none 3 64 [.ref 0, .int a1] h h2 := by
  refine MV.of 0 (by decide) rfl (fun X e1 C => ?_)
  subst e1
  replace C : CX X 103 cX11_startHouse 2 RX11 none 3 64 := C
  show V X _ h 0 [some (.ref 0), some (.int a1)] []
  unfold F_X11_startHouse at hyp
  refine V_aload_n (pc := 0) C dX11_startHouse_0 rfl ?_
  refine V_getR (pc := 1) C dX11_startHouse_1 lf_X11_28 fk_0_2 ?_
  refine V_iload_n (pc := 4) C dX11_startHouse_4 rfl ?_
  obtain ⟨h1, eh1, hyp⟩ := hb_n hyp
  refine V_putI (pc := 5) C dX11_startHouse_5 lf_X11_92 fk_14_1 rfl rfl eh1 ?_
  refine V_aload_n (pc := 8) C dX11_startHouse_8 rfl ?_
  refine V_getR (pc := 9) C dX11_startHouse_9 lf_X11_28 fk_0_2 ?_
  refine V_getR (pc := 12) C dX11_startHouse_12 lf_X11_99 fk_14_0 ?_
  obtain ⟨h3, eh3, hyp⟩ := bV_n hyp
  refine V_callV (pc := 15) C dX11_startHouse_15 lm_X11_311 mk_X2_clear ok_15 rfl (M_X2_clear _ isC_15 eh3) rfl pd_X2_clear (by decide) (by decide) (by decide) (As := []) (rest := []) rfl (Nat.le_of_ble_eq_true rfl) ?_
  refine V_aload_n (pc := 18) C dX11_startHouse_18 rfl ?_
  obtain ⟨h5, eh5, hyp⟩ := bV_n hyp
  refine V_callV (pc := 19) C dX11_startHouse_19 lm_X11_112 mk_X11_startCircuit ok_0 rfl (M_X11_startCircuit _ eh5) rfl pd_X11_startCircuit (by decide) (by decide) (by decide) (As := []) (rest := []) rfl (Nat.le_of_ble_eq_true rfl) ?_
  refine V_aload_n (pc := 22) C dX11_startHouse_22 rfl ?_
  refine V_getR (pc := 23) C dX11_startHouse_23 lf_X11_53 fk_0_5 ?_
  refine V_iload_n (pc := 26) C dX11_startHouse_26 rfl ?_
  obtain ⟨h7, eh7, hyp⟩ := bV_n hyp
  refine V_callV (pc := 27) C dX11_startHouse_27 lm_X11_314 mk_X6_startHouse ok_51 rfl (M_X6_startHouse _ eh7) rfl pd_X6_startHouse (by decide) (by decide) (by decide) (As := [.int a1]) (rest := []) rfl (Nat.le_of_ble_eq_true rfl) ?_
  refine V_aload_n (pc := 30) C dX11_startHouse_30 rfl ?_
  refine V_getR (pc := 31) C dX11_startHouse_31 lf_X11_76 fk_0_8 ?_
  obtain ⟨h9, eh9, hyp⟩ := bV_n hyp
  refine V_callV (pc := 34) C dX11_startHouse_34 lm_X11_315 mk_X7_clear ok_99 rfl (M_X7_clear _ eh9) rfl pd_X7_clear (by decide) (by decide) (by decide) (As := []) (rest := []) rfl (Nat.le_of_ble_eq_true rfl) ?_
  cases hyp
  exact V_vret C dX11_startHouse_37
theorem dX11_floors_0 : decode cX11_floors 0 = .ok (.iload_n 1, 1) := by decide +kernel
theorem dX11_floors_1 : decode cX11_floors 1 = .ok (.iconst 2, 1) := by decide +kernel
theorem dX11_floors_2 : decode cX11_floors 2 = .ok (.if_icmp .lt 9, 3) := by decide +kernel
theorem dX11_floors_5 : decode cX11_floors 5 = .ok (.iload_n 1, 1) := by decide +kernel
theorem dX11_floors_6 : decode cX11_floors 6 = .ok (.bipush 6, 2) := by decide +kernel
theorem dX11_floors_8 : decode cX11_floors 8 = .ok (.if_icmp .le 5, 3) := by decide +kernel
theorem dX11_floors_11 : decode cX11_floors 11 = .ok (.iconst 0, 1) := by decide +kernel
theorem dX11_floors_12 : decode cX11_floors 12 = .ok (.ireturn, 1) := by decide +kernel
theorem dX11_floors_13 : decode cX11_floors 13 = .ok (.aload_n 0, 1) := by decide +kernel
theorem dX11_floors_14 : decode cX11_floors 14 = .ok (.iload_n 1, 1) := by decide +kernel
theorem dX11_floors_15 : decode cX11_floors 15 = .ok (.invokevirtual 80, 3) := by decide +kernel
theorem dX11_floors_18 : decode cX11_floors 18 = .ok (.iconst 1, 1) := by decide +kernel
theorem dX11_floors_19 : decode cX11_floors 19 = .ok (.ireturn, 1) := by decide +kernel
def F_X11_floors (N : Nat) (a1 : Int32) (h : PH) : Option (Int32 × PH) :=
  if a1 < (2 : Int32) then
    some ((0 : Int32), h)
  else
    if a1 ≤ (6 : Int32) then
      bV (F_X11_startHouse N a1 h) fun h4 =>
      some ((1 : Int32), h4)
    else
      some ((0 : Int32), h)
set_option maxRecDepth 20000 in
set_option maxHeartbeats 4000000 in
theorem M_X11_floors (E : EV) {N : Nat} {a1 : Int32} {r : Int32} {h h2 : PH} (hyp : F_X11_floors N a1 h = some (r, h2)) : MI E 103 yX11_floors cX11_floors 2 (some .boolean) 4 85 [.ref 0, .int a1] h r h2 := by
  refine MI.of 0 (by decide) rfl (fun X e1 C => ?_)
  subst e1
  replace C : CX X 103 cX11_floors 2 RX11 (some .boolean) 4 85 := C
  show V X _ h 0 [some (.ref 0), some (.int a1)] []
  unfold F_X11_floors at hyp
  refine V_iload_n (pc := 0) C dX11_floors_0 rfl ?_
  refine V_iconst (pc := 1) C dX11_floors_1 (v := 2) (by decide) ?_
  refine V_icmp_lt (pc := 2) C dX11_floors_2 (tgt := 11) (by decide) (fun q1 => ?_) (fun q1 => ?_)
  · replace hyp := (if_pos q1).symm.trans hyp
    refine V_iconst (pc := 11) C dX11_floors_11 (v := 0) (by decide) ?_
    cases hyp
    exact V_zret C dX11_floors_12 rfl
  · replace hyp := (if_neg q1).symm.trans hyp
    refine V_iload_n (pc := 5) C dX11_floors_5 rfl ?_
    refine V_bipush (pc := 6) C dX11_floors_6 (v := 6) (by decide) ?_
    refine V_icmp_le (pc := 8) C dX11_floors_8 (tgt := 13) (by decide) (fun q2 => ?_) (fun q2 => ?_)
    · replace hyp := (if_pos q2).symm.trans hyp
      refine V_aload_n (pc := 13) C dX11_floors_13 rfl ?_
      refine V_iload_n (pc := 14) C dX11_floors_14 rfl ?_
      obtain ⟨h4, eh4, hyp⟩ := bV_n hyp
      refine V_callV (pc := 15) C dX11_floors_15 lm_X11_80 mk_X11_startHouse ok_0 rfl (M_X11_startHouse _ eh4) rfl pd_X11_startHouse (by decide) (by decide) (by decide) (As := [.int a1]) (rest := []) rfl (Nat.le_of_ble_eq_true rfl) ?_
      refine V_iconst (pc := 18) C dX11_floors_18 (v := 1) (by decide) ?_
      cases hyp
      exact V_zret C dX11_floors_19 rfl
    · replace hyp := (if_neg q2).symm.trans hyp
      refine V_iconst (pc := 11) C dX11_floors_11 (v := 0) (by decide) ?_
      cases hyp
      exact V_zret C dX11_floors_12 rfl
theorem dX11_feed_0 : decode cX11_feed 0 = .ok (.aload_n 0, 1) := by decide +kernel
theorem dX11_feed_1 : decode cX11_feed 1 = .ok (.getfield 10, 3) := by decide +kernel
theorem dX11_feed_4 : decode cX11_feed 4 = .ok (.lload_n 1, 1) := by decide +kernel
theorem dX11_feed_5 : decode cX11_feed 5 = .ok (.invokevirtual 84, 3) := by decide +kernel
theorem dX11_feed_8 : decode cX11_feed 8 = .ok (.aload_n 0, 1) := by decide +kernel
theorem dX11_feed_9 : decode cX11_feed 9 = .ok (.getfield 10, 3) := by decide +kernel
theorem dX11_feed_12 : decode cX11_feed 12 = .ok (.lload_n 3, 1) := by decide +kernel
theorem dX11_feed_13 : decode cX11_feed 13 = .ok (.invokevirtual 84, 3) := by decide +kernel
theorem dX11_feed_16 : decode cX11_feed 16 = .ok (.aload_n 0, 1) := by decide +kernel
theorem dX11_feed_17 : decode cX11_feed 17 = .ok (.getfield 10, 3) := by decide +kernel
theorem dX11_feed_20 : decode cX11_feed 20 = .ok (.lload 5, 2) := by decide +kernel
theorem dX11_feed_22 : decode cX11_feed 22 = .ok (.invokevirtual 84, 3) := by decide +kernel
theorem dX11_feed_25 : decode cX11_feed 25 = .ok (.aload_n 0, 1) := by decide +kernel
theorem dX11_feed_26 : decode cX11_feed 26 = .ok (.getfield 10, 3) := by decide +kernel
theorem dX11_feed_29 : decode cX11_feed 29 = .ok (.getfield 88, 3) := by decide +kernel
theorem dX11_feed_32 : decode cX11_feed 32 = .ok (.ireturn, 1) := by decide +kernel
def F_X11_feed (N : Nat) (a1 : Int64) (a2 : Int64) (a3 : Int64) (h : PH) : Option (Int32 × PH) :=
  bV (F_X8_put N a1 h) fun h2 =>
  bV (F_X8_put N a2 h2) fun h4 =>
  bV (F_X8_put N a3 h4) fun h6 =>
  some (h6.1 1 1, h6)
set_option maxRecDepth 20000 in
set_option maxHeartbeats 4000000 in
theorem M_X11_feed (E : EV) {N : Nat} {a1 : Int64} {a2 : Int64} {a3 : Int64} {r : Int32} {h h2 : PH} (hyp : F_X11_feed N a1 a2 a3 h = some (r, h2)) : MI E 103 yX11_feed cX11_feed 7 (some .int) 1 25 [.ref 0, .long a1, .long a2, .long a3] h r h2 := by
  refine MI.of 0 (by decide) rfl (fun X e1 C => ?_)
  subst e1
  replace C : CX X 103 cX11_feed 7 RX11 (some .int) 1 25 := C
  show V X _ h 0 [some (.ref 0), some (.long a1), none, some (.long a2), none, some (.long a3), none] []
  unfold F_X11_feed at hyp
  refine V_aload_n (pc := 0) C dX11_feed_0 rfl ?_
  refine V_getR (pc := 1) C dX11_feed_1 lf_X11_10 fk_0_0 ?_
  refine V_lload_n (pc := 4) C dX11_feed_4 rfl ?_
  obtain ⟨h2, eh2, hyp⟩ := bV_n hyp
  refine V_callV (pc := 5) C dX11_feed_5 lm_X11_84 mk_X8_put ok_1 rfl (M_X8_put _ eh2) rfl pd_X8_put (by decide) (by decide) (by decide) (As := [.long a1]) (rest := []) rfl (Nat.le_of_ble_eq_true rfl) ?_
  refine V_aload_n (pc := 8) C dX11_feed_8 rfl ?_
  refine V_getR (pc := 9) C dX11_feed_9 lf_X11_10 fk_0_0 ?_
  refine V_lload_n (pc := 12) C dX11_feed_12 rfl ?_
  obtain ⟨h4, eh4, hyp⟩ := bV_n hyp
  refine V_callV (pc := 13) C dX11_feed_13 lm_X11_84 mk_X8_put ok_1 rfl (M_X8_put _ eh4) rfl pd_X8_put (by decide) (by decide) (by decide) (As := [.long a2]) (rest := []) rfl (Nat.le_of_ble_eq_true rfl) ?_
  refine V_aload_n (pc := 16) C dX11_feed_16 rfl ?_
  refine V_getR (pc := 17) C dX11_feed_17 lf_X11_10 fk_0_0 ?_
  refine V_lload (pc := 20) C dX11_feed_20 rfl ?_
  obtain ⟨h6, eh6, hyp⟩ := bV_n hyp
  refine V_callV (pc := 22) C dX11_feed_22 lm_X11_84 mk_X8_put ok_1 rfl (M_X8_put _ eh6) rfl pd_X8_put (by decide) (by decide) (by decide) (As := [.long a3]) (rest := []) rfl (Nat.le_of_ble_eq_true rfl) ?_
  refine V_aload_n (pc := 25) C dX11_feed_25 rfl ?_
  refine V_getR (pc := 26) C dX11_feed_26 lf_X11_10 fk_0_0 ?_
  refine V_getI (pc := 29) C dX11_feed_29 lf_X11_88 fk_1_1 ?_
  cases hyp
  exact V_iret C dX11_feed_32
theorem dX11_circuit_0 : decode cX11_circuit 0 = .ok (.aload_n 0, 1) := by decide +kernel
theorem dX11_circuit_1 : decode cX11_circuit 1 = .ok (.getfield 21, 3) := by decide +kernel
theorem dX11_circuit_4 : decode cX11_circuit 4 = .ok (.aload_n 0, 1) := by decide +kernel
theorem dX11_circuit_5 : decode cX11_circuit 5 = .ok (.getfield 28, 3) := by decide +kernel
theorem dX11_circuit_8 : decode cX11_circuit 8 = .ok (.getfield 92, 3) := by decide +kernel
theorem dX11_circuit_11 : decode cX11_circuit 11 = .ok (.invokevirtual 95, 3) := by decide +kernel
theorem dX11_circuit_14 : decode cX11_circuit 14 = .ok (.istore_n 1, 1) := by decide +kernel
theorem dX11_circuit_15 : decode cX11_circuit 15 = .ok (.iload_n 1, 1) := by decide +kernel
theorem dX11_circuit_16 : decode cX11_circuit 16 = .ok (.ifCond .ne 24, 3) := by decide +kernel
theorem dX11_circuit_19 : decode cX11_circuit 19 = .ok (.aload_n 0, 1) := by decide +kernel
theorem dX11_circuit_20 : decode cX11_circuit 20 = .ok (.getfield 28, 3) := by decide +kernel
theorem dX11_circuit_23 : decode cX11_circuit 23 = .ok (.getfield 99, 3) := by decide +kernel
theorem dX11_circuit_26 : decode cX11_circuit 26 = .ok (.aload_n 0, 1) := by decide +kernel
theorem dX11_circuit_27 : decode cX11_circuit 27 = .ok (.getfield 21, 3) := by decide +kernel
theorem dX11_circuit_30 : decode cX11_circuit 30 = .ok (.getfield 103, 3) := by decide +kernel
theorem dX11_circuit_33 : decode cX11_circuit 33 = .ok (.invokevirtual 106, 3) := by decide +kernel
theorem dX11_circuit_36 : decode cX11_circuit 36 = .ok (.aload_n 0, 1) := by decide +kernel
theorem dX11_circuit_37 : decode cX11_circuit 37 = .ok (.invokevirtual 112, 3) := by decide +kernel
theorem dX11_circuit_40 : decode cX11_circuit 40 = .ok (.iload_n 1, 1) := by decide +kernel
theorem dX11_circuit_41 : decode cX11_circuit 41 = .ok (.ireturn, 1) := by decide +kernel
def F_X11_circuit (N : Nat) (h : PH) : Option (Int32 × PH) :=
  bI (F_X5_readCircuit N (h.1 14 1) h) fun r1 h2 =>
  if r1 = 0 then
    bV (F_X2_copy 15 h2) fun h5 =>
    bV (F_X11_startCircuit  h5) fun h7 =>
    some (r1, h7)
  else
    some (r1, h2)
set_option maxRecDepth 20000 in
set_option maxHeartbeats 4000000 in
theorem M_X11_circuit (E : EV) {N : Nat} {r : Int32} {h h2 : PH} (hyp : F_X11_circuit N  h = some (r, h2)) : MI E 103 yX11_circuit cX11_circuit 2 (some .int) 163 4228 [.ref 0] h r h2 := by
  refine MI.of 1 (by decide) rfl (fun X e1 C => ?_)
  subst e1
  replace C : CX X 103 cX11_circuit 2 RX11 (some .int) 163 4228 := C
  show V X _ h 0 [some (.ref 0), none] []
  unfold F_X11_circuit at hyp
  refine V_aload_n (pc := 0) C dX11_circuit_0 rfl ?_
  refine V_getR (pc := 1) C dX11_circuit_1 lf_X11_21 fk_0_1 ?_
  refine V_aload_n (pc := 4) C dX11_circuit_4 rfl ?_
  refine V_getR (pc := 5) C dX11_circuit_5 lf_X11_28 fk_0_2 ?_
  refine V_getI (pc := 8) C dX11_circuit_8 lf_X11_92 fk_14_1 ?_
  obtain ⟨r1, h2, eh2, hyp⟩ := bI_n hyp
  refine V_callI (pc := 11) C dX11_circuit_11 lm_X11_95 mk_X5_readCircuit ok_3 rfl (M_X5_readCircuit _ eh2) rfl pd_X5_readCircuit (by decide) (by decide) (by decide) (As := [.int (h.1 14 1)]) (rest := []) rfl (Nat.le_of_ble_eq_true rfl) ?_
  refine V_istore_n (pc := 14) C dX11_circuit_14 (by decide) rfl ?_
  refine V_iload_n (pc := 15) C dX11_circuit_15 rfl ?_
  refine V_if_ne (pc := 16) C dX11_circuit_16 (tgt := 40) (by decide) (fun q3 => ?_) (fun q3 => ?_)
  · replace hyp := (if_neg q3).symm.trans hyp
    refine V_iload_n (pc := 40) C dX11_circuit_40 rfl ?_
    cases hyp
    exact V_iret C dX11_circuit_41
  · replace hyp := (if_pos q3).symm.trans hyp
    refine V_aload_n (pc := 19) C dX11_circuit_19 rfl ?_
    refine V_getR (pc := 20) C dX11_circuit_20 lf_X11_28 fk_0_2 ?_
    refine V_getR (pc := 23) C dX11_circuit_23 lf_X11_99 fk_14_0 ?_
    refine V_aload_n (pc := 26) C dX11_circuit_26 rfl ?_
    refine V_getR (pc := 27) C dX11_circuit_27 lf_X11_21 fk_0_1 ?_
    refine V_getR (pc := 30) C dX11_circuit_30 lf_X11_103 fk_3_0 ?_
    obtain ⟨h5, eh5, hyp⟩ := bV_n hyp
    refine V_callV (pc := 33) C dX11_circuit_33 lm_X11_106 mk_X2_copy ok_15 rfl (M_X2_copy _ isC_15 eh5) rfl pd_X2_copy (by decide) (by decide) (by decide) (As := [.ref 4]) (rest := []) rfl (Nat.le_of_ble_eq_true rfl) ?_
    refine V_aload_n (pc := 36) C dX11_circuit_36 rfl ?_
    obtain ⟨h7, eh7, hyp⟩ := bV_n hyp
    refine V_callV (pc := 37) C dX11_circuit_37 lm_X11_112 mk_X11_startCircuit ok_0 rfl (M_X11_startCircuit _ eh7) rfl pd_X11_startCircuit (by decide) (by decide) (by decide) (As := []) (rest := []) rfl (Nat.le_of_ble_eq_true rfl) ?_
    refine V_iload_n (pc := 40) C dX11_circuit_40 rfl ?_
    cases hyp
    exact V_iret C dX11_circuit_41
theorem dX11_rule_0 : decode cX11_rule 0 = .ok (.aload_n 0, 1) := by decide +kernel
theorem dX11_rule_1 : decode cX11_rule 1 = .ok (.getfield 21, 3) := by decide +kernel
theorem dX11_rule_4 : decode cX11_rule 4 = .ok (.invokevirtual 115, 3) := by decide +kernel
theorem dX11_rule_7 : decode cX11_rule 7 = .ok (.istore_n 1, 1) := by decide +kernel
theorem dX11_rule_8 : decode cX11_rule 8 = .ok (.iload_n 1, 1) := by decide +kernel
theorem dX11_rule_9 : decode cX11_rule 9 = .ok (.ifCond .ne 17, 3) := by decide +kernel
theorem dX11_rule_12 : decode cX11_rule 12 = .ok (.aload_n 0, 1) := by decide +kernel
theorem dX11_rule_13 : decode cX11_rule 13 = .ok (.getfield 53, 3) := by decide +kernel
theorem dX11_rule_16 : decode cX11_rule 16 = .ok (.aload_n 0, 1) := by decide +kernel
theorem dX11_rule_17 : decode cX11_rule 17 = .ok (.getfield 21, 3) := by decide +kernel
theorem dX11_rule_20 : decode cX11_rule 20 = .ok (.getfield 103, 3) := by decide +kernel
theorem dX11_rule_23 : decode cX11_rule 23 = .ok (.invokevirtual 119, 3) := by decide +kernel
theorem dX11_rule_26 : decode cX11_rule 26 = .ok (.iload_n 1, 1) := by decide +kernel
theorem dX11_rule_27 : decode cX11_rule 27 = .ok (.ireturn, 1) := by decide +kernel
def F_X11_rule (N : Nat) (h : PH) : Option (Int32 × PH) :=
  bI (F_X5_readRule N  h) fun r1 h2 =>
  if r1 = 0 then
    bV (F_X6_setRule  h2) fun h5 =>
    some (r1, h5)
  else
    some (r1, h2)
set_option maxRecDepth 20000 in
set_option maxHeartbeats 4000000 in
theorem M_X11_rule (E : EV) {N : Nat} {r : Int32} {h h2 : PH} (hyp : F_X11_rule N  h = some (r, h2)) : MI E 103 yX11_rule cX11_rule 2 (some .int) 162 4204 [.ref 0] h r h2 := by
  refine MI.of 1 (by decide) rfl (fun X e1 C => ?_)
  subst e1
  replace C : CX X 103 cX11_rule 2 RX11 (some .int) 162 4204 := C
  show V X _ h 0 [some (.ref 0), none] []
  unfold F_X11_rule at hyp
  refine V_aload_n (pc := 0) C dX11_rule_0 rfl ?_
  refine V_getR (pc := 1) C dX11_rule_1 lf_X11_21 fk_0_1 ?_
  obtain ⟨r1, h2, eh2, hyp⟩ := bI_n hyp
  refine V_callI (pc := 4) C dX11_rule_4 lm_X11_115 mk_X5_readRule ok_3 rfl (M_X5_readRule _ eh2) rfl pd_X5_readRule (by decide) (by decide) (by decide) (As := []) (rest := []) rfl (Nat.le_of_ble_eq_true rfl) ?_
  refine V_istore_n (pc := 7) C dX11_rule_7 (by decide) rfl ?_
  refine V_iload_n (pc := 8) C dX11_rule_8 rfl ?_
  refine V_if_ne (pc := 9) C dX11_rule_9 (tgt := 26) (by decide) (fun q3 => ?_) (fun q3 => ?_)
  · replace hyp := (if_neg q3).symm.trans hyp
    refine V_iload_n (pc := 26) C dX11_rule_26 rfl ?_
    cases hyp
    exact V_iret C dX11_rule_27
  · replace hyp := (if_pos q3).symm.trans hyp
    refine V_aload_n (pc := 12) C dX11_rule_12 rfl ?_
    refine V_getR (pc := 13) C dX11_rule_13 lf_X11_53 fk_0_5 ?_
    refine V_aload_n (pc := 16) C dX11_rule_16 rfl ?_
    refine V_getR (pc := 17) C dX11_rule_17 lf_X11_21 fk_0_1 ?_
    refine V_getR (pc := 20) C dX11_rule_20 lf_X11_103 fk_3_0 ?_
    obtain ⟨h5, eh5, hyp⟩ := bV_n hyp
    refine V_callV (pc := 23) C dX11_rule_23 lm_X11_119 mk_X6_setRule ok_51 rfl (M_X6_setRule _ eh5) rfl pd_X6_setRule (by decide) (by decide) (by decide) (As := [.ref 4]) (rest := []) rfl (Nat.le_of_ble_eq_true rfl) ?_
    refine V_iload_n (pc := 26) C dX11_rule_26 rfl ?_
    cases hyp
    exact V_iret C dX11_rule_27
theorem dX11_press_0 : decode cX11_press 0 = .ok (.aload_n 0, 1) := by decide +kernel
theorem dX11_press_1 : decode cX11_press 1 = .ok (.getfield 28, 3) := by decide +kernel
theorem dX11_press_4 : decode cX11_press 4 = .ok (.iload_n 1, 1) := by decide +kernel
theorem dX11_press_5 : decode cX11_press 5 = .ok (.invokevirtual 122, 3) := by decide +kernel
theorem dX11_press_8 : decode cX11_press 8 = .ok (.ifCond .eq 14, 3) := by decide +kernel
theorem dX11_press_11 : decode cX11_press 11 = .ok (.aload_n 0, 1) := by decide +kernel
theorem dX11_press_12 : decode cX11_press 12 = .ok (.getfield 28, 3) := by decide +kernel
theorem dX11_press_15 : decode cX11_press 15 = .ok (.iload_n 1, 1) := by decide +kernel
theorem dX11_press_16 : decode cX11_press 16 = .ok (.invokevirtual 126, 3) := by decide +kernel
theorem dX11_press_19 : decode cX11_press 19 = .ok (.goto 4, 3) := by decide +kernel
theorem dX11_press_22 : decode cX11_press 22 = .ok (.iconst (-1), 1) := by decide +kernel
theorem dX11_press_23 : decode cX11_press 23 = .ok (.ireturn, 1) := by decide +kernel
def F_X11_press (N : Nat) (a1 : Int32) (h : PH) : Option (Int32 × PH) :=
  bI (F_X4_isButton a1 h) fun r1 h2 =>
  if r1 = 0 then
    some ((-1 : Int32), h2)
  else
    bI (F_X4_tick N a1 h2) fun r4 h5 =>
    some (r4, h5)
set_option maxRecDepth 20000 in
set_option maxHeartbeats 4000000 in
theorem M_X11_press (E : EV) {N : Nat} {a1 : Int32} {r : Int32} {h h2 : PH} (hyp : F_X11_press N a1 h = some (r, h2)) : MI E 103 yX11_press cX11_press 2 (some .int) 4 101 [.ref 0, .int a1] h r h2 := by
  refine MI.of 0 (by decide) rfl (fun X e1 C => ?_)
  subst e1
  replace C : CX X 103 cX11_press 2 RX11 (some .int) 4 101 := C
  show V X _ h 0 [some (.ref 0), some (.int a1)] []
  unfold F_X11_press at hyp
  refine V_aload_n (pc := 0) C dX11_press_0 rfl ?_
  refine V_getR (pc := 1) C dX11_press_1 lf_X11_28 fk_0_2 ?_
  refine V_iload_n (pc := 4) C dX11_press_4 rfl ?_
  obtain ⟨r1, h2, eh2, hyp⟩ := bI_n hyp
  refine V_callI (pc := 5) C dX11_press_5 lm_X11_122 mk_X4_isButton ok_14 rfl (M_X4_isButton _ eh2) rfl pd_X4_isButton (by decide) (by decide) (by decide) (As := [.int a1]) (rest := []) rfl (Nat.le_of_ble_eq_true rfl) ?_
  refine V_if_eq (pc := 8) C dX11_press_8 (tgt := 22) (by decide) (fun q3 => ?_) (fun q3 => ?_)
  · replace hyp := (if_pos q3).symm.trans hyp
    refine V_iconst (pc := 22) C dX11_press_22 (v := -1) (by decide) ?_
    cases hyp
    exact V_iret C dX11_press_23
  · replace hyp := (if_neg q3).symm.trans hyp
    refine V_aload_n (pc := 11) C dX11_press_11 rfl ?_
    refine V_getR (pc := 12) C dX11_press_12 lf_X11_28 fk_0_2 ?_
    refine V_iload_n (pc := 15) C dX11_press_15 rfl ?_
    obtain ⟨r4, h5, eh5, hyp⟩ := bI_n hyp
    refine V_callI (pc := 16) C dX11_press_16 lm_X11_126 mk_X4_tick ok_14 rfl (M_X4_tick _ eh5) rfl pd_X4_tick (by decide) (by decide) (by decide) (As := [.int a1]) (rest := []) rfl (Nat.le_of_ble_eq_true rfl) ?_
    refine V_goto (pc := 19) C dX11_press_19 (tgt := 23) (by decide) ?_
    cases hyp
    exact V_iret C dX11_press_23
theorem dX11_again_0 : decode cX11_again 0 = .ok (.aload_n 0, 1) := by decide +kernel
theorem dX11_again_1 : decode cX11_again 1 = .ok (.getfield 28, 3) := by decide +kernel
theorem dX11_again_4 : decode cX11_again 4 = .ok (.invokevirtual 129, 3) := by decide +kernel
theorem dX11_again_7 : decode cX11_again 7 = .ok (.iconst 1, 1) := by decide +kernel
theorem dX11_again_8 : decode cX11_again 8 = .ok (.ireturn, 1) := by decide +kernel
def F_X11_again (h : PH) : Option (Int32 × PH) :=
  bV (F_X4_restart  h) fun h2 =>
  some ((1 : Int32), h2)
set_option maxRecDepth 20000 in
set_option maxHeartbeats 4000000 in
theorem M_X11_again (E : EV) {r : Int32} {h h2 : PH} (hyp : F_X11_again  h = some (r, h2)) : MI E 103 yX11_again cX11_again 1 (some .boolean) 1 20 [.ref 0] h r h2 := by
  refine MI.of 0 (by decide) rfl (fun X e1 C => ?_)
  subst e1
  replace C : CX X 103 cX11_again 1 RX11 (some .boolean) 1 20 := C
  show V X _ h 0 [some (.ref 0)] []
  unfold F_X11_again at hyp
  refine V_aload_n (pc := 0) C dX11_again_0 rfl ?_
  refine V_getR (pc := 1) C dX11_again_1 lf_X11_28 fk_0_2 ?_
  obtain ⟨h2, eh2, hyp⟩ := bV_n hyp
  refine V_callV (pc := 4) C dX11_again_4 lm_X11_129 mk_X4_restart ok_14 rfl (M_X4_restart _ eh2) rfl pd_X4_restart (by decide) (by decide) (by decide) (As := []) (rest := []) rfl (Nat.le_of_ble_eq_true rfl) ?_
  refine V_iconst (pc := 7) C dX11_again_7 (v := 1) (by decide) ?_
  cases hyp
  exact V_zret C dX11_again_8 rfl
theorem dX11_never_0 : decode cX11_never 0 = .ok (.iload_n 1, 1) := by decide +kernel
theorem dX11_never_1 : decode cX11_never 1 = .ok (.ifCond .lt 26, 3) := by decide +kernel
theorem dX11_never_4 : decode cX11_never 4 = .ok (.iload_n 1, 1) := by decide +kernel
theorem dX11_never_5 : decode cX11_never 5 = .ok (.aload_n 0, 1) := by decide +kernel
theorem dX11_never_6 : decode cX11_never 6 = .ok (.getfield 28, 3) := by decide +kernel
theorem dX11_never_9 : decode cX11_never 9 = .ok (.getfield 99, 3) := by decide +kernel
theorem dX11_never_12 : decode cX11_never 12 = .ok (.getfield 153, 3) := by decide +kernel
theorem dX11_never_15 : decode cX11_never 15 = .ok (.if_icmp .ge 12, 3) := by decide +kernel
theorem dX11_never_18 : decode cX11_never 18 = .ok (.iload_n 2, 1) := by decide +kernel
theorem dX11_never_19 : decode cX11_never 19 = .ok (.ifCond .lt 8, 3) := by decide +kernel
theorem dX11_never_22 : decode cX11_never 22 = .ok (.iload_n 2, 1) := by decide +kernel
theorem dX11_never_23 : decode cX11_never 23 = .ok (.iconst 1, 1) := by decide +kernel
theorem dX11_never_24 : decode cX11_never 24 = .ok (.if_icmp .le 5, 3) := by decide +kernel
theorem dX11_never_27 : decode cX11_never 27 = .ok (.iconst (-1), 1) := by decide +kernel
theorem dX11_never_28 : decode cX11_never 28 = .ok (.ireturn, 1) := by decide +kernel
theorem dX11_never_29 : decode cX11_never 29 = .ok (.aload_n 0, 1) := by decide +kernel
theorem dX11_never_30 : decode cX11_never 30 = .ok (.getfield 37, 3) := by decide +kernel
theorem dX11_never_33 : decode cX11_never 33 = .ok (.iload_n 1, 1) := by decide +kernel
theorem dX11_never_34 : decode cX11_never 34 = .ok (.invokevirtual 156, 3) := by decide +kernel
theorem dX11_never_37 : decode cX11_never 37 = .ok (.istore_n 3, 1) := by decide +kernel
theorem dX11_never_38 : decode cX11_never 38 = .ok (.iload_n 2, 1) := by decide +kernel
theorem dX11_never_39 : decode cX11_never 39 = .ok (.ifCond .ne 14, 3) := by decide +kernel
theorem dX11_never_42 : decode cX11_never 42 = .ok (.iload_n 3, 1) := by decide +kernel
theorem dX11_never_43 : decode cX11_never 43 = .ok (.iconst (-1), 1) := by decide +kernel
theorem dX11_never_44 : decode cX11_never 44 = .ok (.if_icmp .ne 7, 3) := by decide +kernel
theorem dX11_never_47 : decode cX11_never 47 = .ok (.iconst 1, 1) := by decide +kernel
theorem dX11_never_48 : decode cX11_never 48 = .ok (.goto 4, 3) := by decide +kernel
theorem dX11_never_51 : decode cX11_never 51 = .ok (.iconst 0, 1) := by decide +kernel
theorem dX11_never_52 : decode cX11_never 52 = .ok (.ireturn, 1) := by decide +kernel
theorem dX11_never_53 : decode cX11_never 53 = .ok (.aload_n 0, 1) := by decide +kernel
theorem dX11_never_54 : decode cX11_never 54 = .ok (.getfield 37, 3) := by decide +kernel
theorem dX11_never_57 : decode cX11_never 57 = .ok (.iload_n 3, 1) := by decide +kernel
theorem dX11_never_58 : decode cX11_never 58 = .ok (.invokevirtual 159, 3) := by decide +kernel
theorem dX11_never_61 : decode cX11_never 61 = .ok (.ireturn, 1) := by decide +kernel
def F_X11_never (N : Nat) (a1 : Int32) (a2 : Int32) (h : PH) : Option (Int32 × PH) :=
  if a1 < 0 then
    some ((-1 : Int32), h)
  else
    if (h.1 15 1) ≤ a1 then
      some ((-1 : Int32), h)
    else
      if a2 < 0 then
        some ((-1 : Int32), h)
      else
        if a2 ≤ (1 : Int32) then
          bI (F_X0_breakerOf N a1 h) fun r5 h6 =>
          if a2 = 0 then
            if r5 = (-1 : Int32) then
              some ((1 : Int32), h6)
            else
              some ((0 : Int32), h6)
          else
            bI (F_X0_rowLength r5 h6) fun r8 h9 =>
            some (r8, h9)
        else
          some ((-1 : Int32), h)
set_option maxRecDepth 20000 in
set_option maxHeartbeats 4000000 in
theorem M_X11_never (E : EV) {N : Nat} {a1 : Int32} {a2 : Int32} {r : Int32} {h h2 : PH} (hyp : F_X11_never N a1 a2 h = some (r, h2)) : MI E 103 yX11_never cX11_never 4 (some .int) 6 142 [.ref 0, .int a1, .int a2] h r h2 := by
  refine MI.of 1 (by decide) rfl (fun X e1 C => ?_)
  subst e1
  replace C : CX X 103 cX11_never 4 RX11 (some .int) 6 142 := C
  show V X _ h 0 [some (.ref 0), some (.int a1), some (.int a2), none] []
  unfold F_X11_never at hyp
  refine V_iload_n (pc := 0) C dX11_never_0 rfl ?_
  refine V_if_lt (pc := 1) C dX11_never_1 (tgt := 27) (by decide) (fun q1 => ?_) (fun q1 => ?_)
  · replace hyp := (if_pos q1).symm.trans hyp
    refine V_iconst (pc := 27) C dX11_never_27 (v := -1) (by decide) ?_
    cases hyp
    exact V_iret C dX11_never_28
  · replace hyp := (if_neg q1).symm.trans hyp
    refine V_iload_n (pc := 4) C dX11_never_4 rfl ?_
    refine V_aload_n (pc := 5) C dX11_never_5 rfl ?_
    refine V_getR (pc := 6) C dX11_never_6 lf_X11_28 fk_0_2 ?_
    refine V_getR (pc := 9) C dX11_never_9 lf_X11_99 fk_14_0 ?_
    refine V_getI (pc := 12) C dX11_never_12 lf_X11_153 fk_15_1 ?_
    refine V_icmp_ge (pc := 15) C dX11_never_15 (tgt := 27) (by decide) (fun q2 => ?_) (fun q2 => ?_)
    · replace hyp := (if_pos q2).symm.trans hyp
      refine V_iconst (pc := 27) C dX11_never_27 (v := -1) (by decide) ?_
      cases hyp
      exact V_iret C dX11_never_28
    · replace hyp := (if_neg q2).symm.trans hyp
      refine V_iload_n (pc := 18) C dX11_never_18 rfl ?_
      refine V_if_lt (pc := 19) C dX11_never_19 (tgt := 27) (by decide) (fun q3 => ?_) (fun q3 => ?_)
      · replace hyp := (if_pos q3).symm.trans hyp
        refine V_iconst (pc := 27) C dX11_never_27 (v := -1) (by decide) ?_
        cases hyp
        exact V_iret C dX11_never_28
      · replace hyp := (if_neg q3).symm.trans hyp
        refine V_iload_n (pc := 22) C dX11_never_22 rfl ?_
        refine V_iconst (pc := 23) C dX11_never_23 (v := 1) (by decide) ?_
        refine V_icmp_le (pc := 24) C dX11_never_24 (tgt := 29) (by decide) (fun q4 => ?_) (fun q4 => ?_)
        · replace hyp := (if_pos q4).symm.trans hyp
          refine V_aload_n (pc := 29) C dX11_never_29 rfl ?_
          refine V_getR (pc := 30) C dX11_never_30 lf_X11_37 fk_0_3 ?_
          refine V_iload_n (pc := 33) C dX11_never_33 rfl ?_
          obtain ⟨r5, h6, eh6, hyp⟩ := bI_n hyp
          refine V_callI (pc := 34) C dX11_never_34 lm_X11_156 mk_X0_breakerOf ok_21 rfl (M_X0_breakerOf _ eh6) rfl pd_X0_breakerOf (by decide) (by decide) (by decide) (As := [.int a1]) (rest := []) rfl (Nat.le_of_ble_eq_true rfl) ?_
          refine V_istore_n (pc := 37) C dX11_never_37 (by decide) rfl ?_
          refine V_iload_n (pc := 38) C dX11_never_38 rfl ?_
          refine V_if_ne (pc := 39) C dX11_never_39 (tgt := 53) (by decide) (fun q7 => ?_) (fun q7 => ?_)
          · replace hyp := (if_neg q7).symm.trans hyp
            refine V_aload_n (pc := 53) C dX11_never_53 rfl ?_
            refine V_getR (pc := 54) C dX11_never_54 lf_X11_37 fk_0_3 ?_
            refine V_iload_n (pc := 57) C dX11_never_57 rfl ?_
            obtain ⟨r8, h9, eh9, hyp⟩ := bI_n hyp
            refine V_callI (pc := 58) C dX11_never_58 lm_X11_159 mk_X0_rowLength ok_21 rfl (M_X0_rowLength _ eh9) rfl pd_X0_rowLength (by decide) (by decide) (by decide) (As := [.int r5]) (rest := []) rfl (Nat.le_of_ble_eq_true rfl) ?_
            cases hyp
            exact V_iret C dX11_never_61
          · replace hyp := (if_pos q7).symm.trans hyp
            refine V_iload_n (pc := 42) C dX11_never_42 rfl ?_
            refine V_iconst (pc := 43) C dX11_never_43 (v := -1) (by decide) ?_
            refine V_icmp_ne (pc := 44) C dX11_never_44 (tgt := 51) (by decide) (fun q10 => ?_) (fun q10 => ?_)
            · replace hyp := (if_neg q10).symm.trans hyp
              refine V_iconst (pc := 51) C dX11_never_51 (v := 0) (by decide) ?_
              cases hyp
              exact V_iret C dX11_never_52
            · replace hyp := (if_pos q10).symm.trans hyp
              refine V_iconst (pc := 47) C dX11_never_47 (v := 1) (by decide) ?_
              refine V_goto (pc := 48) C dX11_never_48 (tgt := 52) (by decide) ?_
              cases hyp
              exact V_iret C dX11_never_52
        · replace hyp := (if_neg q4).symm.trans hyp
          refine V_iconst (pc := 27) C dX11_never_27 (v := -1) (by decide) ?_
          cases hyp
          exact V_iret C dX11_never_28
theorem dX11_neverRow_0 : decode cX11_neverRow 0 = .ok (.iload_n 1, 1) := by decide +kernel
theorem dX11_neverRow_1 : decode cX11_neverRow 1 = .ok (.ifCond .lt 17, 3) := by decide +kernel
theorem dX11_neverRow_4 : decode cX11_neverRow 4 = .ok (.iload_n 1, 1) := by decide +kernel
theorem dX11_neverRow_5 : decode cX11_neverRow 5 = .ok (.aload_n 0, 1) := by decide +kernel
theorem dX11_neverRow_6 : decode cX11_neverRow 6 = .ok (.getfield 28, 3) := by decide +kernel
theorem dX11_neverRow_9 : decode cX11_neverRow 9 = .ok (.getfield 99, 3) := by decide +kernel
theorem dX11_neverRow_12 : decode cX11_neverRow 12 = .ok (.getfield 153, 3) := by decide +kernel
theorem dX11_neverRow_15 : decode cX11_neverRow 15 = .ok (.if_icmp .lt 5, 3) := by decide +kernel
theorem dX11_neverRow_18 : decode cX11_neverRow 18 = .ok (.iconst (-1), 1) := by decide +kernel
theorem dX11_neverRow_19 : decode cX11_neverRow 19 = .ok (.ireturn, 1) := by decide +kernel
theorem dX11_neverRow_20 : decode cX11_neverRow 20 = .ok (.aload_n 0, 1) := by decide +kernel
theorem dX11_neverRow_21 : decode cX11_neverRow 21 = .ok (.getfield 37, 3) := by decide +kernel
theorem dX11_neverRow_24 : decode cX11_neverRow 24 = .ok (.aload_n 0, 1) := by decide +kernel
theorem dX11_neverRow_25 : decode cX11_neverRow 25 = .ok (.getfield 37, 3) := by decide +kernel
theorem dX11_neverRow_28 : decode cX11_neverRow 28 = .ok (.iload_n 1, 1) := by decide +kernel
theorem dX11_neverRow_29 : decode cX11_neverRow 29 = .ok (.invokevirtual 156, 3) := by decide +kernel
theorem dX11_neverRow_32 : decode cX11_neverRow 32 = .ok (.iload_n 2, 1) := by decide +kernel
theorem dX11_neverRow_33 : decode cX11_neverRow 33 = .ok (.invokevirtual 162, 3) := by decide +kernel
theorem dX11_neverRow_36 : decode cX11_neverRow 36 = .ok (.ireturn, 1) := by decide +kernel
def F_X11_neverRow (N : Nat) (a1 : Int32) (a2 : Int32) (h : PH) : Option (Int32 × PH) :=
  if a1 < 0 then
    some ((-1 : Int32), h)
  else
    if a1 < (h.1 15 1) then
      bI (F_X0_breakerOf N a1 h) fun r3 h4 =>
      bI (F_X0_rowButton N r3 a2 h4) fun r5 h6 =>
      some (r5, h6)
    else
      some ((-1 : Int32), h)
set_option maxRecDepth 20000 in
set_option maxHeartbeats 4000000 in
theorem M_X11_neverRow (E : EV) {N : Nat} {a1 : Int32} {a2 : Int32} {r : Int32} {h h2 : PH} (hyp : F_X11_neverRow N a1 a2 h = some (r, h2)) : MI E 103 yX11_neverRow cX11_neverRow 3 (some .int) 6 142 [.ref 0, .int a1, .int a2] h r h2 := by
  refine MI.of 0 (by decide) rfl (fun X e1 C => ?_)
  subst e1
  replace C : CX X 103 cX11_neverRow 3 RX11 (some .int) 6 142 := C
  show V X _ h 0 [some (.ref 0), some (.int a1), some (.int a2)] []
  unfold F_X11_neverRow at hyp
  refine V_iload_n (pc := 0) C dX11_neverRow_0 rfl ?_
  refine V_if_lt (pc := 1) C dX11_neverRow_1 (tgt := 18) (by decide) (fun q1 => ?_) (fun q1 => ?_)
  · replace hyp := (if_pos q1).symm.trans hyp
    refine V_iconst (pc := 18) C dX11_neverRow_18 (v := -1) (by decide) ?_
    cases hyp
    exact V_iret C dX11_neverRow_19
  · replace hyp := (if_neg q1).symm.trans hyp
    refine V_iload_n (pc := 4) C dX11_neverRow_4 rfl ?_
    refine V_aload_n (pc := 5) C dX11_neverRow_5 rfl ?_
    refine V_getR (pc := 6) C dX11_neverRow_6 lf_X11_28 fk_0_2 ?_
    refine V_getR (pc := 9) C dX11_neverRow_9 lf_X11_99 fk_14_0 ?_
    refine V_getI (pc := 12) C dX11_neverRow_12 lf_X11_153 fk_15_1 ?_
    refine V_icmp_lt (pc := 15) C dX11_neverRow_15 (tgt := 20) (by decide) (fun q2 => ?_) (fun q2 => ?_)
    · replace hyp := (if_pos q2).symm.trans hyp
      refine V_aload_n (pc := 20) C dX11_neverRow_20 rfl ?_
      refine V_getR (pc := 21) C dX11_neverRow_21 lf_X11_37 fk_0_3 ?_
      refine V_aload_n (pc := 24) C dX11_neverRow_24 rfl ?_
      refine V_getR (pc := 25) C dX11_neverRow_25 lf_X11_37 fk_0_3 ?_
      refine V_iload_n (pc := 28) C dX11_neverRow_28 rfl ?_
      obtain ⟨r3, h4, eh4, hyp⟩ := bI_n hyp
      refine V_callI (pc := 29) C dX11_neverRow_29 lm_X11_156 mk_X0_breakerOf ok_21 rfl (M_X0_breakerOf _ eh4) rfl pd_X0_breakerOf (by decide) (by decide) (by decide) (As := [.int a1]) (rest := [.ref 21]) rfl (Nat.le_of_ble_eq_true rfl) ?_
      refine V_iload_n (pc := 32) C dX11_neverRow_32 rfl ?_
      obtain ⟨r5, h6, eh6, hyp⟩ := bI_n hyp
      refine V_callI (pc := 33) C dX11_neverRow_33 lm_X11_162 mk_X0_rowButton ok_21 rfl (M_X0_rowButton _ eh6) rfl pd_X0_rowButton (by decide) (by decide) (by decide) (As := [.int r3, .int a2]) (rest := []) rfl (Nat.le_of_ble_eq_true rfl) ?_
      cases hyp
      exact V_iret C dX11_neverRow_36
    · replace hyp := (if_neg q2).symm.trans hyp
      refine V_iconst (pc := 18) C dX11_neverRow_18 (v := -1) (by decide) ?_
      cases hyp
      exact V_iret C dX11_neverRow_19
theorem dX11_isFloor_0 : decode cX11_isFloor 0 = .ok (.iload_n 1, 1) := by decide +kernel
theorem dX11_isFloor_1 : decode cX11_isFloor 1 = .ok (.ifCond .lt 18, 3) := by decide +kernel
theorem dX11_isFloor_4 : decode cX11_isFloor 4 = .ok (.iload_n 1, 1) := by decide +kernel
theorem dX11_isFloor_5 : decode cX11_isFloor 5 = .ok (.aload_n 0, 1) := by decide +kernel
theorem dX11_isFloor_6 : decode cX11_isFloor 6 = .ok (.getfield 28, 3) := by decide +kernel
theorem dX11_isFloor_9 : decode cX11_isFloor 9 = .ok (.getfield 92, 3) := by decide +kernel
theorem dX11_isFloor_12 : decode cX11_isFloor 12 = .ok (.if_icmp .ge 7, 3) := by decide +kernel
theorem dX11_isFloor_15 : decode cX11_isFloor 15 = .ok (.iconst 1, 1) := by decide +kernel
theorem dX11_isFloor_16 : decode cX11_isFloor 16 = .ok (.goto 4, 3) := by decide +kernel
theorem dX11_isFloor_19 : decode cX11_isFloor 19 = .ok (.iconst 0, 1) := by decide +kernel
theorem dX11_isFloor_20 : decode cX11_isFloor 20 = .ok (.ireturn, 1) := by decide +kernel
def F_X11_isFloor_b19 (h : PH) : Option (Int32 × PH) :=
  some ((0 : Int32), h)
set_option maxRecDepth 20000 in
set_option maxHeartbeats 4000000 in
theorem T_X11_isFloor_b19 {X : CT} (C : CX X 103 cX11_isFloor 2 RX11 (some .boolean) 0 0) {r0 : Int32} {h0 : PH} : ∀ (h : PH), F_X11_isFloor_b19  h = some (r0, h0) → V X (QI X r0 h0) h 19 [none, none] [] := by
  intro  h hyp
  unfold F_X11_isFloor_b19 at hyp
  refine V_iconst (pc := 19) C dX11_isFloor_19 (v := 0) (by decide) ?_
  cases hyp
  exact V_zret C dX11_isFloor_20 rfl
def F_X11_isFloor (a1 : Int32) (h : PH) : Option (Int32 × PH) :=
  if a1 < 0 then
    F_X11_isFloor_b19  h
  else
    if (h.1 14 1) ≤ a1 then
      F_X11_isFloor_b19  h
    else
      some ((1 : Int32), h)
set_option maxRecDepth 20000 in
set_option maxHeartbeats 4000000 in
theorem M_X11_isFloor (E : EV) {a1 : Int32} {r : Int32} {h h2 : PH} (hyp : F_X11_isFloor a1 h = some (r, h2)) : MI E 103 yX11_isFloor cX11_isFloor 2 (some .boolean) 0 0 [.ref 0, .int a1] h r h2 := by
  refine MI.of 0 (by decide) rfl (fun X e1 C => ?_)
  subst e1
  replace C : CX X 103 cX11_isFloor 2 RX11 (some .boolean) 0 0 := C
  show V X _ h 0 [some (.ref 0), some (.int a1)] []
  unfold F_X11_isFloor at hyp
  refine V_iload_n (pc := 0) C dX11_isFloor_0 rfl ?_
  refine V_if_lt (pc := 1) C dX11_isFloor_1 (tgt := 19) (by decide) (fun q1 => ?_) (fun q1 => ?_)
  · replace hyp := (if_pos q1).symm.trans hyp
    refine V_weak (lv' := [none, none]) (lvle_n (lvle_n lvle_0)) ?_
    exact (T_X11_isFloor_b19 C) h hyp
  · replace hyp := (if_neg q1).symm.trans hyp
    refine V_iload_n (pc := 4) C dX11_isFloor_4 rfl ?_
    refine V_aload_n (pc := 5) C dX11_isFloor_5 rfl ?_
    refine V_getR (pc := 6) C dX11_isFloor_6 lf_X11_28 fk_0_2 ?_
    refine V_getI (pc := 9) C dX11_isFloor_9 lf_X11_92 fk_14_1 ?_
    refine V_icmp_ge (pc := 12) C dX11_isFloor_12 (tgt := 19) (by decide) (fun q2 => ?_) (fun q2 => ?_)
    · replace hyp := (if_pos q2).symm.trans hyp
      refine V_weak (lv' := [none, none]) (lvle_n (lvle_n lvle_0)) ?_
      exact (T_X11_isFloor_b19 C) h hyp
    · replace hyp := (if_neg q2).symm.trans hyp
      refine V_iconst (pc := 15) C dX11_isFloor_15 (v := 1) (by decide) ?_
      refine V_goto (pc := 16) C dX11_isFloor_16 (tgt := 20) (by decide) ?_
      cases hyp
      exact V_zret C dX11_isFloor_20 rfl
theorem dX11_isPatience_0 : decode cX11_isPatience 0 = .ok (.iload_n 0, 1) := by decide +kernel
theorem dX11_isPatience_1 : decode cX11_isPatience 1 = .ok (.iconst 1, 1) := by decide +kernel
theorem dX11_isPatience_2 : decode cX11_isPatience 2 = .ok (.if_icmp .lt 13, 3) := by decide +kernel
theorem dX11_isPatience_5 : decode cX11_isPatience 5 = .ok (.iload_n 0, 1) := by decide +kernel
theorem dX11_isPatience_6 : decode cX11_isPatience 6 = .ok (.bipush 60, 2) := by decide +kernel
theorem dX11_isPatience_8 : decode cX11_isPatience 8 = .ok (.if_icmp .gt 7, 3) := by decide +kernel
theorem dX11_isPatience_11 : decode cX11_isPatience 11 = .ok (.iconst 1, 1) := by decide +kernel
theorem dX11_isPatience_12 : decode cX11_isPatience 12 = .ok (.goto 4, 3) := by decide +kernel
theorem dX11_isPatience_15 : decode cX11_isPatience 15 = .ok (.iconst 0, 1) := by decide +kernel
theorem dX11_isPatience_16 : decode cX11_isPatience 16 = .ok (.ireturn, 1) := by decide +kernel
def F_X11_isPatience_b15 (h : PH) : Option (Int32 × PH) :=
  some ((0 : Int32), h)
set_option maxRecDepth 20000 in
set_option maxHeartbeats 4000000 in
theorem T_X11_isPatience_b15 {X : CT} (C : CX X 103 cX11_isPatience 1 RX11 (some .boolean) 0 0) {r0 : Int32} {h0 : PH} : ∀ (h : PH), F_X11_isPatience_b15  h = some (r0, h0) → V X (QI X r0 h0) h 15 [none] [] := by
  intro  h hyp
  unfold F_X11_isPatience_b15 at hyp
  refine V_iconst (pc := 15) C dX11_isPatience_15 (v := 0) (by decide) ?_
  cases hyp
  exact V_zret C dX11_isPatience_16 rfl
def F_X11_isPatience (a1 : Int32) (h : PH) : Option (Int32 × PH) :=
  if a1 < (1 : Int32) then
    F_X11_isPatience_b15  h
  else
    if (60 : Int32) < a1 then
      F_X11_isPatience_b15  h
    else
      some ((1 : Int32), h)
set_option maxRecDepth 20000 in
set_option maxHeartbeats 4000000 in
theorem M_X11_isPatience (E : EV) {a1 : Int32} {r : Int32} {h h2 : PH} (hyp : F_X11_isPatience a1 h = some (r, h2)) : MI E 103 yX11_isPatience cX11_isPatience 1 (some .boolean) 0 0 [.int a1] h r h2 := by
  refine MI.of 0 (by decide) rfl (fun X e1 C => ?_)
  subst e1
  replace C : CX X 103 cX11_isPatience 1 RX11 (some .boolean) 0 0 := C
  show V X _ h 0 [some (.int a1)] []
  unfold F_X11_isPatience at hyp
  refine V_iload_n (pc := 0) C dX11_isPatience_0 rfl ?_
  refine V_iconst (pc := 1) C dX11_isPatience_1 (v := 1) (by decide) ?_
  refine V_icmp_lt (pc := 2) C dX11_isPatience_2 (tgt := 15) (by decide) (fun q1 => ?_) (fun q1 => ?_)
  · replace hyp := (if_pos q1).symm.trans hyp
    refine V_weak (lv' := [none]) (lvle_n lvle_0) ?_
    exact (T_X11_isPatience_b15 C) h hyp
  · replace hyp := (if_neg q1).symm.trans hyp
    refine V_iload_n (pc := 5) C dX11_isPatience_5 rfl ?_
    refine V_bipush (pc := 6) C dX11_isPatience_6 (v := 60) (by decide) ?_
    refine V_icmp_gt (pc := 8) C dX11_isPatience_8 (tgt := 15) (by decide) (fun q2 => ?_) (fun q2 => ?_)
    · replace hyp := (if_pos q2).symm.trans hyp
      refine V_weak (lv' := [none]) (lvle_n lvle_0) ?_
      exact (T_X11_isPatience_b15 C) h hyp
    · replace hyp := (if_neg q2).symm.trans hyp
      refine V_iconst (pc := 11) C dX11_isPatience_11 (v := 1) (by decide) ?_
      refine V_goto (pc := 12) C dX11_isPatience_12 (tgt := 16) (by decide) ?_
      cases hyp
      exact V_zret C dX11_isPatience_16 rfl
theorem dX11_forgets_0 : decode cX11_forgets 0 = .ok (.aload_n 0, 1) := by decide +kernel
theorem dX11_forgets_1 : decode cX11_forgets 1 = .ok (.iload_n 1, 1) := by decide +kernel
theorem dX11_forgets_2 : decode cX11_forgets 2 = .ok (.invokevirtual 166, 3) := by decide +kernel
theorem dX11_forgets_5 : decode cX11_forgets 5 = .ok (.ifCond .eq 19, 3) := by decide +kernel
theorem dX11_forgets_8 : decode cX11_forgets 8 = .ok (.iload_n 2, 1) := by decide +kernel
theorem dX11_forgets_9 : decode cX11_forgets 9 = .ok (.invokestatic 169, 3) := by decide +kernel
theorem dX11_forgets_12 : decode cX11_forgets 12 = .ok (.ifCond .eq 12, 3) := by decide +kernel
theorem dX11_forgets_15 : decode cX11_forgets 15 = .ok (.iload_n 3, 1) := by decide +kernel
theorem dX11_forgets_16 : decode cX11_forgets 16 = .ok (.ifCond .lt 8, 3) := by decide +kernel
theorem dX11_forgets_19 : decode cX11_forgets 19 = .ok (.iload_n 3, 1) := by decide +kernel
theorem dX11_forgets_20 : decode cX11_forgets 20 = .ok (.iconst 1, 1) := by decide +kernel
theorem dX11_forgets_21 : decode cX11_forgets 21 = .ok (.if_icmp .le 5, 3) := by decide +kernel
theorem dX11_forgets_24 : decode cX11_forgets 24 = .ok (.iconst (-1), 1) := by decide +kernel
theorem dX11_forgets_25 : decode cX11_forgets 25 = .ok (.ireturn, 1) := by decide +kernel
theorem dX11_forgets_26 : decode cX11_forgets 26 = .ok (.aload_n 0, 1) := by decide +kernel
theorem dX11_forgets_27 : decode cX11_forgets 27 = .ok (.getfield 37, 3) := by decide +kernel
theorem dX11_forgets_30 : decode cX11_forgets 30 = .ok (.iload_n 1, 1) := by decide +kernel
theorem dX11_forgets_31 : decode cX11_forgets 31 = .ok (.iload_n 2, 1) := by decide +kernel
theorem dX11_forgets_32 : decode cX11_forgets 32 = .ok (.invokevirtual 172, 3) := by decide +kernel
theorem dX11_forgets_35 : decode cX11_forgets 35 = .ok (.istore 4, 2) := by decide +kernel
theorem dX11_forgets_37 : decode cX11_forgets 37 = .ok (.iload_n 3, 1) := by decide +kernel
theorem dX11_forgets_38 : decode cX11_forgets 38 = .ok (.ifCond .ne 15, 3) := by decide +kernel
theorem dX11_forgets_41 : decode cX11_forgets 41 = .ok (.iload 4, 2) := by decide +kernel
theorem dX11_forgets_43 : decode cX11_forgets 43 = .ok (.iconst (-1), 1) := by decide +kernel
theorem dX11_forgets_44 : decode cX11_forgets 44 = .ok (.if_icmp .ne 7, 3) := by decide +kernel
theorem dX11_forgets_47 : decode cX11_forgets 47 = .ok (.iconst 0, 1) := by decide +kernel
theorem dX11_forgets_48 : decode cX11_forgets 48 = .ok (.goto 4, 3) := by decide +kernel
theorem dX11_forgets_51 : decode cX11_forgets 51 = .ok (.iconst 1, 1) := by decide +kernel
theorem dX11_forgets_52 : decode cX11_forgets 52 = .ok (.ireturn, 1) := by decide +kernel
theorem dX11_forgets_53 : decode cX11_forgets 53 = .ok (.aload_n 0, 1) := by decide +kernel
theorem dX11_forgets_54 : decode cX11_forgets 54 = .ok (.getfield 37, 3) := by decide +kernel
theorem dX11_forgets_57 : decode cX11_forgets 57 = .ok (.iload 4, 2) := by decide +kernel
theorem dX11_forgets_59 : decode cX11_forgets 59 = .ok (.invokevirtual 159, 3) := by decide +kernel
theorem dX11_forgets_62 : decode cX11_forgets 62 = .ok (.ireturn, 1) := by decide +kernel
def F_X11_forgets (N : Nat) (a1 : Int32) (a2 : Int32) (a3 : Int32) (h : PH) : Option (Int32 × PH) :=
  bI (F_X11_isFloor a1 h) fun r1 h2 =>
  if r1 = 0 then
    some ((-1 : Int32), h2)
  else
    bI (F_X11_isPatience a2 h2) fun r4 h5 =>
    if r4 = 0 then
      some ((-1 : Int32), h5)
    else
      if a3 < 0 then
        some ((-1 : Int32), h5)
      else
        if a3 ≤ (1 : Int32) then
          bI (F_X0_forgetterOf N a1 a2 h5) fun r9 h10 =>
          if a3 = 0 then
            if r9 = (-1 : Int32) then
              some ((0 : Int32), h10)
            else
              some ((1 : Int32), h10)
          else
            bI (F_X0_rowLength r9 h10) fun r12 h13 =>
            some (r12, h13)
        else
          some ((-1 : Int32), h5)
set_option maxRecDepth 20000 in
set_option maxHeartbeats 4000000 in
theorem M_X11_forgets (E : EV) {N : Nat} {a1 : Int32} {a2 : Int32} {a3 : Int32} {r : Int32} {h h2 : PH} (hyp : F_X11_forgets N a1 a2 a3 h = some (r, h2)) : MI E 103 yX11_forgets cX11_forgets 5 (some .int) 6 142 [.ref 0, .int a1, .int a2, .int a3] h r h2 := by
  refine MI.of 1 (by decide) rfl (fun X e1 C => ?_)
  subst e1
  replace C : CX X 103 cX11_forgets 5 RX11 (some .int) 6 142 := C
  show V X _ h 0 [some (.ref 0), some (.int a1), some (.int a2), some (.int a3), none] []
  unfold F_X11_forgets at hyp
  refine V_aload_n (pc := 0) C dX11_forgets_0 rfl ?_
  refine V_iload_n (pc := 1) C dX11_forgets_1 rfl ?_
  obtain ⟨r1, h2, eh2, hyp⟩ := bI_n hyp
  refine V_callI (pc := 2) C dX11_forgets_2 lm_X11_166 mk_X11_isFloor ok_0 rfl (M_X11_isFloor _ eh2) rfl pd_X11_isFloor (by decide) (by decide) (by decide) (As := [.int a1]) (rest := []) rfl (Nat.le_of_ble_eq_true rfl) ?_
  refine V_if_eq (pc := 5) C dX11_forgets_5 (tgt := 24) (by decide) (fun q3 => ?_) (fun q3 => ?_)
  · replace hyp := (if_pos q3).symm.trans hyp
    refine V_iconst (pc := 24) C dX11_forgets_24 (v := -1) (by decide) ?_
    cases hyp
    exact V_iret C dX11_forgets_25
  · replace hyp := (if_neg q3).symm.trans hyp
    refine V_iload_n (pc := 8) C dX11_forgets_8 rfl ?_
    obtain ⟨r4, h5, eh5, hyp⟩ := bI_n hyp
    refine V_statI (pc := 9) C dX11_forgets_9 lm_X11_169 ms_X11_isPatience (M_X11_isPatience _ eh5) rfl pd_X11_isPatience (by decide) (by decide) (by decide) (As := [.int a2]) (rest := []) rfl (Nat.le_of_ble_eq_true rfl) ?_
    refine V_if_eq (pc := 12) C dX11_forgets_12 (tgt := 24) (by decide) (fun q6 => ?_) (fun q6 => ?_)
    · replace hyp := (if_pos q6).symm.trans hyp
      refine V_iconst (pc := 24) C dX11_forgets_24 (v := -1) (by decide) ?_
      cases hyp
      exact V_iret C dX11_forgets_25
    · replace hyp := (if_neg q6).symm.trans hyp
      refine V_iload_n (pc := 15) C dX11_forgets_15 rfl ?_
      refine V_if_lt (pc := 16) C dX11_forgets_16 (tgt := 24) (by decide) (fun q7 => ?_) (fun q7 => ?_)
      · replace hyp := (if_pos q7).symm.trans hyp
        refine V_iconst (pc := 24) C dX11_forgets_24 (v := -1) (by decide) ?_
        cases hyp
        exact V_iret C dX11_forgets_25
      · replace hyp := (if_neg q7).symm.trans hyp
        refine V_iload_n (pc := 19) C dX11_forgets_19 rfl ?_
        refine V_iconst (pc := 20) C dX11_forgets_20 (v := 1) (by decide) ?_
        refine V_icmp_le (pc := 21) C dX11_forgets_21 (tgt := 26) (by decide) (fun q8 => ?_) (fun q8 => ?_)
        · replace hyp := (if_pos q8).symm.trans hyp
          refine V_aload_n (pc := 26) C dX11_forgets_26 rfl ?_
          refine V_getR (pc := 27) C dX11_forgets_27 lf_X11_37 fk_0_3 ?_
          refine V_iload_n (pc := 30) C dX11_forgets_30 rfl ?_
          refine V_iload_n (pc := 31) C dX11_forgets_31 rfl ?_
          obtain ⟨r9, h10, eh10, hyp⟩ := bI_n hyp
          refine V_callI (pc := 32) C dX11_forgets_32 lm_X11_172 mk_X0_forgetterOf ok_21 rfl (M_X0_forgetterOf _ eh10) rfl pd_X0_forgetterOf (by decide) (by decide) (by decide) (As := [.int a1, .int a2]) (rest := []) rfl (Nat.le_of_ble_eq_true rfl) ?_
          refine V_istore (pc := 35) C dX11_forgets_35 (by decide) rfl ?_
          refine V_iload_n (pc := 37) C dX11_forgets_37 rfl ?_
          refine V_if_ne (pc := 38) C dX11_forgets_38 (tgt := 53) (by decide) (fun q11 => ?_) (fun q11 => ?_)
          · replace hyp := (if_neg q11).symm.trans hyp
            refine V_aload_n (pc := 53) C dX11_forgets_53 rfl ?_
            refine V_getR (pc := 54) C dX11_forgets_54 lf_X11_37 fk_0_3 ?_
            refine V_iload (pc := 57) C dX11_forgets_57 rfl ?_
            obtain ⟨r12, h13, eh13, hyp⟩ := bI_n hyp
            refine V_callI (pc := 59) C dX11_forgets_59 lm_X11_159 mk_X0_rowLength ok_21 rfl (M_X0_rowLength _ eh13) rfl pd_X0_rowLength (by decide) (by decide) (by decide) (As := [.int r9]) (rest := []) rfl (Nat.le_of_ble_eq_true rfl) ?_
            cases hyp
            exact V_iret C dX11_forgets_62
          · replace hyp := (if_pos q11).symm.trans hyp
            refine V_iload (pc := 41) C dX11_forgets_41 rfl ?_
            refine V_iconst (pc := 43) C dX11_forgets_43 (v := -1) (by decide) ?_
            refine V_icmp_ne (pc := 44) C dX11_forgets_44 (tgt := 51) (by decide) (fun q14 => ?_) (fun q14 => ?_)
            · replace hyp := (if_neg q14).symm.trans hyp
              refine V_iconst (pc := 51) C dX11_forgets_51 (v := 1) (by decide) ?_
              cases hyp
              exact V_iret C dX11_forgets_52
            · replace hyp := (if_pos q14).symm.trans hyp
              refine V_iconst (pc := 47) C dX11_forgets_47 (v := 0) (by decide) ?_
              refine V_goto (pc := 48) C dX11_forgets_48 (tgt := 52) (by decide) ?_
              cases hyp
              exact V_iret C dX11_forgets_52
        · replace hyp := (if_neg q8).symm.trans hyp
          refine V_iconst (pc := 24) C dX11_forgets_24 (v := -1) (by decide) ?_
          cases hyp
          exact V_iret C dX11_forgets_25
theorem dX11_forgetsRow_0 : decode cX11_forgetsRow 0 = .ok (.aload_n 0, 1) := by decide +kernel
theorem dX11_forgetsRow_1 : decode cX11_forgetsRow 1 = .ok (.iload_n 1, 1) := by decide +kernel
theorem dX11_forgetsRow_2 : decode cX11_forgetsRow 2 = .ok (.invokevirtual 166, 3) := by decide +kernel
theorem dX11_forgetsRow_5 : decode cX11_forgetsRow 5 = .ok (.ifCond .eq 10, 3) := by decide +kernel
theorem dX11_forgetsRow_8 : decode cX11_forgetsRow 8 = .ok (.iload_n 2, 1) := by decide +kernel
theorem dX11_forgetsRow_9 : decode cX11_forgetsRow 9 = .ok (.invokestatic 169, 3) := by decide +kernel
theorem dX11_forgetsRow_12 : decode cX11_forgetsRow 12 = .ok (.ifCond .ne 5, 3) := by decide +kernel
theorem dX11_forgetsRow_15 : decode cX11_forgetsRow 15 = .ok (.iconst (-1), 1) := by decide +kernel
theorem dX11_forgetsRow_16 : decode cX11_forgetsRow 16 = .ok (.ireturn, 1) := by decide +kernel
theorem dX11_forgetsRow_17 : decode cX11_forgetsRow 17 = .ok (.aload_n 0, 1) := by decide +kernel
theorem dX11_forgetsRow_18 : decode cX11_forgetsRow 18 = .ok (.getfield 37, 3) := by decide +kernel
theorem dX11_forgetsRow_21 : decode cX11_forgetsRow 21 = .ok (.aload_n 0, 1) := by decide +kernel
theorem dX11_forgetsRow_22 : decode cX11_forgetsRow 22 = .ok (.getfield 37, 3) := by decide +kernel
theorem dX11_forgetsRow_25 : decode cX11_forgetsRow 25 = .ok (.iload_n 1, 1) := by decide +kernel
theorem dX11_forgetsRow_26 : decode cX11_forgetsRow 26 = .ok (.iload_n 2, 1) := by decide +kernel
theorem dX11_forgetsRow_27 : decode cX11_forgetsRow 27 = .ok (.invokevirtual 172, 3) := by decide +kernel
theorem dX11_forgetsRow_30 : decode cX11_forgetsRow 30 = .ok (.iload_n 3, 1) := by decide +kernel
theorem dX11_forgetsRow_31 : decode cX11_forgetsRow 31 = .ok (.invokevirtual 162, 3) := by decide +kernel
theorem dX11_forgetsRow_34 : decode cX11_forgetsRow 34 = .ok (.ireturn, 1) := by decide +kernel
def F_X11_forgetsRow (N : Nat) (a1 : Int32) (a2 : Int32) (a3 : Int32) (h : PH) : Option (Int32 × PH) :=
  bI (F_X11_isFloor a1 h) fun r1 h2 =>
  if r1 = 0 then
    some ((-1 : Int32), h2)
  else
    bI (F_X11_isPatience a2 h2) fun r4 h5 =>
    if r4 = 0 then
      some ((-1 : Int32), h5)
    else
      bI (F_X0_forgetterOf N a1 a2 h5) fun r7 h8 =>
      bI (F_X0_rowButton N r7 a3 h8) fun r9 h10 =>
      some (r9, h10)
set_option maxRecDepth 20000 in
set_option maxHeartbeats 4000000 in
theorem M_X11_forgetsRow (E : EV) {N : Nat} {a1 : Int32} {a2 : Int32} {a3 : Int32} {r : Int32} {h h2 : PH} (hyp : F_X11_forgetsRow N a1 a2 a3 h = some (r, h2)) : MI E 103 yX11_forgetsRow cX11_forgetsRow 4 (some .int) 6 142 [.ref 0, .int a1, .int a2, .int a3] h r h2 := by
  refine MI.of 0 (by decide) rfl (fun X e1 C => ?_)
  subst e1
  replace C : CX X 103 cX11_forgetsRow 4 RX11 (some .int) 6 142 := C
  show V X _ h 0 [some (.ref 0), some (.int a1), some (.int a2), some (.int a3)] []
  unfold F_X11_forgetsRow at hyp
  refine V_aload_n (pc := 0) C dX11_forgetsRow_0 rfl ?_
  refine V_iload_n (pc := 1) C dX11_forgetsRow_1 rfl ?_
  obtain ⟨r1, h2, eh2, hyp⟩ := bI_n hyp
  refine V_callI (pc := 2) C dX11_forgetsRow_2 lm_X11_166 mk_X11_isFloor ok_0 rfl (M_X11_isFloor _ eh2) rfl pd_X11_isFloor (by decide) (by decide) (by decide) (As := [.int a1]) (rest := []) rfl (Nat.le_of_ble_eq_true rfl) ?_
  refine V_if_eq (pc := 5) C dX11_forgetsRow_5 (tgt := 15) (by decide) (fun q3 => ?_) (fun q3 => ?_)
  · replace hyp := (if_pos q3).symm.trans hyp
    refine V_iconst (pc := 15) C dX11_forgetsRow_15 (v := -1) (by decide) ?_
    cases hyp
    exact V_iret C dX11_forgetsRow_16
  · replace hyp := (if_neg q3).symm.trans hyp
    refine V_iload_n (pc := 8) C dX11_forgetsRow_8 rfl ?_
    obtain ⟨r4, h5, eh5, hyp⟩ := bI_n hyp
    refine V_statI (pc := 9) C dX11_forgetsRow_9 lm_X11_169 ms_X11_isPatience (M_X11_isPatience _ eh5) rfl pd_X11_isPatience (by decide) (by decide) (by decide) (As := [.int a2]) (rest := []) rfl (Nat.le_of_ble_eq_true rfl) ?_
    refine V_if_ne (pc := 12) C dX11_forgetsRow_12 (tgt := 17) (by decide) (fun q6 => ?_) (fun q6 => ?_)
    · replace hyp := (if_neg q6).symm.trans hyp
      refine V_aload_n (pc := 17) C dX11_forgetsRow_17 rfl ?_
      refine V_getR (pc := 18) C dX11_forgetsRow_18 lf_X11_37 fk_0_3 ?_
      refine V_aload_n (pc := 21) C dX11_forgetsRow_21 rfl ?_
      refine V_getR (pc := 22) C dX11_forgetsRow_22 lf_X11_37 fk_0_3 ?_
      refine V_iload_n (pc := 25) C dX11_forgetsRow_25 rfl ?_
      refine V_iload_n (pc := 26) C dX11_forgetsRow_26 rfl ?_
      obtain ⟨r7, h8, eh8, hyp⟩ := bI_n hyp
      refine V_callI (pc := 27) C dX11_forgetsRow_27 lm_X11_172 mk_X0_forgetterOf ok_21 rfl (M_X0_forgetterOf _ eh8) rfl pd_X0_forgetterOf (by decide) (by decide) (by decide) (As := [.int a1, .int a2]) (rest := [.ref 21]) rfl (Nat.le_of_ble_eq_true rfl) ?_
      refine V_iload_n (pc := 30) C dX11_forgetsRow_30 rfl ?_
      obtain ⟨r9, h10, eh10, hyp⟩ := bI_n hyp
      refine V_callI (pc := 31) C dX11_forgetsRow_31 lm_X11_162 mk_X0_rowButton ok_21 rfl (M_X0_rowButton _ eh10) rfl pd_X0_rowButton (by decide) (by decide) (by decide) (As := [.int r7, .int a3]) (rest := []) rfl (Nat.le_of_ble_eq_true rfl) ?_
      cases hyp
      exact V_iret C dX11_forgetsRow_34
    · replace hyp := (if_pos q6).symm.trans hyp
      refine V_iconst (pc := 15) C dX11_forgetsRow_15 (v := -1) (by decide) ?_
      cases hyp
      exact V_iret C dX11_forgetsRow_16
theorem dX11_areLamps_0 : decode cX11_areLamps 0 = .ok (.iload_n 0, 1) := by decide +kernel
theorem dX11_areLamps_1 : decode cX11_areLamps 1 = .ok (.ifCond .lt 14, 3) := by decide +kernel
theorem dX11_areLamps_4 : decode cX11_areLamps 4 = .ok (.iload_n 0, 1) := by decide +kernel
theorem dX11_areLamps_5 : decode cX11_areLamps 5 = .ok (.sipush 255, 3) := by decide +kernel
theorem dX11_areLamps_8 : decode cX11_areLamps 8 = .ok (.if_icmp .gt 7, 3) := by decide +kernel
theorem dX11_areLamps_11 : decode cX11_areLamps 11 = .ok (.iconst 1, 1) := by decide +kernel
theorem dX11_areLamps_12 : decode cX11_areLamps 12 = .ok (.goto 4, 3) := by decide +kernel
theorem dX11_areLamps_15 : decode cX11_areLamps 15 = .ok (.iconst 0, 1) := by decide +kernel
theorem dX11_areLamps_16 : decode cX11_areLamps 16 = .ok (.ireturn, 1) := by decide +kernel
def F_X11_areLamps_b15 (h : PH) : Option (Int32 × PH) :=
  some ((0 : Int32), h)
set_option maxRecDepth 20000 in
set_option maxHeartbeats 4000000 in
theorem T_X11_areLamps_b15 {X : CT} (C : CX X 103 cX11_areLamps 1 RX11 (some .boolean) 0 0) {r0 : Int32} {h0 : PH} : ∀ (h : PH), F_X11_areLamps_b15  h = some (r0, h0) → V X (QI X r0 h0) h 15 [none] [] := by
  intro  h hyp
  unfold F_X11_areLamps_b15 at hyp
  refine V_iconst (pc := 15) C dX11_areLamps_15 (v := 0) (by decide) ?_
  cases hyp
  exact V_zret C dX11_areLamps_16 rfl
def F_X11_areLamps (a1 : Int32) (h : PH) : Option (Int32 × PH) :=
  if a1 < 0 then
    F_X11_areLamps_b15  h
  else
    if (255 : Int32) < a1 then
      F_X11_areLamps_b15  h
    else
      some ((1 : Int32), h)
set_option maxRecDepth 20000 in
set_option maxHeartbeats 4000000 in
theorem M_X11_areLamps (E : EV) {a1 : Int32} {r : Int32} {h h2 : PH} (hyp : F_X11_areLamps a1 h = some (r, h2)) : MI E 103 yX11_areLamps cX11_areLamps 1 (some .boolean) 0 0 [.int a1] h r h2 := by
  refine MI.of 0 (by decide) rfl (fun X e1 C => ?_)
  subst e1
  replace C : CX X 103 cX11_areLamps 1 RX11 (some .boolean) 0 0 := C
  show V X _ h 0 [some (.int a1)] []
  unfold F_X11_areLamps at hyp
  refine V_iload_n (pc := 0) C dX11_areLamps_0 rfl ?_
  refine V_if_lt (pc := 1) C dX11_areLamps_1 (tgt := 15) (by decide) (fun q1 => ?_) (fun q1 => ?_)
  · replace hyp := (if_pos q1).symm.trans hyp
    refine V_weak (lv' := [none]) (lvle_n lvle_0) ?_
    exact (T_X11_areLamps_b15 C) h hyp
  · replace hyp := (if_neg q1).symm.trans hyp
    refine V_iload_n (pc := 4) C dX11_areLamps_4 rfl ?_
    refine V_sipush (pc := 5) C dX11_areLamps_5 (v := 255) (by decide) ?_
    refine V_icmp_gt (pc := 8) C dX11_areLamps_8 (tgt := 15) (by decide) (fun q2 => ?_) (fun q2 => ?_)
    · replace hyp := (if_pos q2).symm.trans hyp
      refine V_weak (lv' := [none]) (lvle_n lvle_0) ?_
      exact (T_X11_areLamps_b15 C) h hyp
    · replace hyp := (if_neg q2).symm.trans hyp
      refine V_iconst (pc := 11) C dX11_areLamps_11 (v := 1) (by decide) ?_
      refine V_goto (pc := 12) C dX11_areLamps_12 (tgt := 16) (by decide) ?_
      cases hyp
      exact V_zret C dX11_areLamps_16 rfl
theorem dX11_stuck_0 : decode cX11_stuck 0 = .ok (.iload_n 1, 1) := by decide +kernel
theorem dX11_stuck_1 : decode cX11_stuck 1 = .ok (.invokestatic 175, 3) := by decide +kernel
theorem dX11_stuck_4 : decode cX11_stuck 4 = .ok (.ifCond .eq 14, 3) := by decide +kernel
theorem dX11_stuck_7 : decode cX11_stuck 7 = .ok (.aload_n 0, 1) := by decide +kernel
theorem dX11_stuck_8 : decode cX11_stuck 8 = .ok (.getfield 46, 3) := by decide +kernel
theorem dX11_stuck_11 : decode cX11_stuck 11 = .ok (.iload_n 1, 1) := by decide +kernel
theorem dX11_stuck_12 : decode cX11_stuck 12 = .ok (.invokevirtual 178, 3) := by decide +kernel
theorem dX11_stuck_15 : decode cX11_stuck 15 = .ok (.goto 4, 3) := by decide +kernel
theorem dX11_stuck_18 : decode cX11_stuck 18 = .ok (.iconst (-1), 1) := by decide +kernel
theorem dX11_stuck_19 : decode cX11_stuck 19 = .ok (.ireturn, 1) := by decide +kernel
def F_X11_stuck (N : Nat) (a1 : Int32) (h : PH) : Option (Int32 × PH) :=
  bI (F_X11_areLamps a1 h) fun r1 h2 =>
  if r1 = 0 then
    some ((-1 : Int32), h2)
  else
    bI (F_X3_start N a1 h2) fun r4 h5 =>
    some (r4, h5)
set_option maxRecDepth 20000 in
set_option maxHeartbeats 4000000 in
theorem M_X11_stuck (E : EV) {N : Nat} {a1 : Int32} {r : Int32} {h h2 : PH} (hyp : F_X11_stuck N a1 h = some (r, h2)) : MI E 103 yX11_stuck cX11_stuck 2 (some .int) 7 163 [.ref 0, .int a1] h r h2 := by
  refine MI.of 0 (by decide) rfl (fun X e1 C => ?_)
  subst e1
  replace C : CX X 103 cX11_stuck 2 RX11 (some .int) 7 163 := C
  show V X _ h 0 [some (.ref 0), some (.int a1)] []
  unfold F_X11_stuck at hyp
  refine V_iload_n (pc := 0) C dX11_stuck_0 rfl ?_
  obtain ⟨r1, h2, eh2, hyp⟩ := bI_n hyp
  refine V_statI (pc := 1) C dX11_stuck_1 lm_X11_175 ms_X11_areLamps (M_X11_areLamps _ eh2) rfl pd_X11_areLamps (by decide) (by decide) (by decide) (As := [.int a1]) (rest := []) rfl (Nat.le_of_ble_eq_true rfl) ?_
  refine V_if_eq (pc := 4) C dX11_stuck_4 (tgt := 18) (by decide) (fun q3 => ?_) (fun q3 => ?_)
  · replace hyp := (if_pos q3).symm.trans hyp
    refine V_iconst (pc := 18) C dX11_stuck_18 (v := -1) (by decide) ?_
    cases hyp
    exact V_iret C dX11_stuck_19
  · replace hyp := (if_neg q3).symm.trans hyp
    refine V_aload_n (pc := 7) C dX11_stuck_7 rfl ?_
    refine V_getR (pc := 8) C dX11_stuck_8 lf_X11_46 fk_0_4 ?_
    refine V_iload_n (pc := 11) C dX11_stuck_11 rfl ?_
    obtain ⟨r4, h5, eh5, hyp⟩ := bI_n hyp
    refine V_callI (pc := 12) C dX11_stuck_12 lm_X11_178 mk_X3_start ok_39 rfl (M_X3_start _ eh5) rfl pd_X3_start (by decide) (by decide) (by decide) (As := [.int a1]) (rest := []) rfl (Nat.le_of_ble_eq_true rfl) ?_
    refine V_goto (pc := 15) C dX11_stuck_15 (tgt := 19) (by decide) ?_
    cases hyp
    exact V_iret C dX11_stuck_19
theorem dX11_tried_0 : decode cX11_tried 0 = .ok (.aload_n 0, 1) := by decide +kernel
theorem dX11_tried_1 : decode cX11_tried 1 = .ok (.getfield 46, 3) := by decide +kernel
theorem dX11_tried_4 : decode cX11_tried 4 = .ok (.getfield 181, 3) := by decide +kernel
theorem dX11_tried_7 : decode cX11_tried 7 = .ok (.ifCond .eq 21, 3) := by decide +kernel
theorem dX11_tried_10 : decode cX11_tried 10 = .ok (.aload_n 0, 1) := by decide +kernel
theorem dX11_tried_11 : decode cX11_tried 11 = .ok (.getfield 28, 3) := by decide +kernel
theorem dX11_tried_14 : decode cX11_tried 14 = .ok (.iload_n 1, 1) := by decide +kernel
theorem dX11_tried_15 : decode cX11_tried 15 = .ok (.invokevirtual 122, 3) := by decide +kernel
theorem dX11_tried_18 : decode cX11_tried 18 = .ok (.ifCond .eq 10, 3) := by decide +kernel
theorem dX11_tried_21 : decode cX11_tried 21 = .ok (.iload_n 2, 1) := by decide +kernel
theorem dX11_tried_22 : decode cX11_tried 22 = .ok (.invokestatic 175, 3) := by decide +kernel
theorem dX11_tried_25 : decode cX11_tried 25 = .ok (.ifCond .ne 5, 3) := by decide +kernel
theorem dX11_tried_28 : decode cX11_tried 28 = .ok (.iconst (-1), 1) := by decide +kernel
theorem dX11_tried_29 : decode cX11_tried 29 = .ok (.ireturn, 1) := by decide +kernel
theorem dX11_tried_30 : decode cX11_tried 30 = .ok (.aload_n 0, 1) := by decide +kernel
theorem dX11_tried_31 : decode cX11_tried 31 = .ok (.getfield 46, 3) := by decide +kernel
theorem dX11_tried_34 : decode cX11_tried 34 = .ok (.iconst 1, 1) := by decide +kernel
theorem dX11_tried_35 : decode cX11_tried 35 = .ok (.iload_n 1, 1) := by decide +kernel
theorem dX11_tried_36 : decode cX11_tried 36 = .ok (.iadd, 1) := by decide +kernel
theorem dX11_tried_37 : decode cX11_tried 37 = .ok (.iload_n 2, 1) := by decide +kernel
theorem dX11_tried_38 : decode cX11_tried 38 = .ok (.invokevirtual 185, 3) := by decide +kernel
theorem dX11_tried_41 : decode cX11_tried 41 = .ok (.ireturn, 1) := by decide +kernel
def F_X11_tried (N : Nat) (a1 : Int32) (a2 : Int32) (h : PH) : Option (Int32 × PH) :=
  if (h.1 39 0) = 0 then
    some ((-1 : Int32), h)
  else
    bI (F_X4_isButton a1 h) fun r2 h3 =>
    if r2 = 0 then
      some ((-1 : Int32), h3)
    else
      bI (F_X11_areLamps a2 h3) fun r5 h6 =>
      if r5 = 0 then
        some ((-1 : Int32), h6)
      else
        bI (F_X3_follow N ((1 : Int32) + a1) a2 h6) fun r8 h9 =>
        some (r8, h9)
set_option maxRecDepth 20000 in
set_option maxHeartbeats 4000000 in
theorem M_X11_tried (E : EV) {N : Nat} {a1 : Int32} {a2 : Int32} {r : Int32} {h h2 : PH} (hyp : F_X11_tried N a1 a2 h = some (r, h2)) : MI E 103 yX11_tried cX11_tried 3 (some .int) 2 47 [.ref 0, .int a1, .int a2] h r h2 := by
  refine MI.of 0 (by decide) rfl (fun X e1 C => ?_)
  subst e1
  replace C : CX X 103 cX11_tried 3 RX11 (some .int) 2 47 := C
  show V X _ h 0 [some (.ref 0), some (.int a1), some (.int a2)] []
  unfold F_X11_tried at hyp
  refine V_aload_n (pc := 0) C dX11_tried_0 rfl ?_
  refine V_getR (pc := 1) C dX11_tried_1 lf_X11_46 fk_0_4 ?_
  refine V_getI (pc := 4) C dX11_tried_4 lf_X11_181 fk_39_0 ?_
  refine V_if_eq (pc := 7) C dX11_tried_7 (tgt := 28) (by decide) (fun q1 => ?_) (fun q1 => ?_)
  · replace hyp := (if_pos q1).symm.trans hyp
    refine V_iconst (pc := 28) C dX11_tried_28 (v := -1) (by decide) ?_
    cases hyp
    exact V_iret C dX11_tried_29
  · replace hyp := (if_neg q1).symm.trans hyp
    refine V_aload_n (pc := 10) C dX11_tried_10 rfl ?_
    refine V_getR (pc := 11) C dX11_tried_11 lf_X11_28 fk_0_2 ?_
    refine V_iload_n (pc := 14) C dX11_tried_14 rfl ?_
    obtain ⟨r2, h3, eh3, hyp⟩ := bI_n hyp
    refine V_callI (pc := 15) C dX11_tried_15 lm_X11_122 mk_X4_isButton ok_14 rfl (M_X4_isButton _ eh3) rfl pd_X4_isButton (by decide) (by decide) (by decide) (As := [.int a1]) (rest := []) rfl (Nat.le_of_ble_eq_true rfl) ?_
    refine V_if_eq (pc := 18) C dX11_tried_18 (tgt := 28) (by decide) (fun q4 => ?_) (fun q4 => ?_)
    · replace hyp := (if_pos q4).symm.trans hyp
      refine V_iconst (pc := 28) C dX11_tried_28 (v := -1) (by decide) ?_
      cases hyp
      exact V_iret C dX11_tried_29
    · replace hyp := (if_neg q4).symm.trans hyp
      refine V_iload_n (pc := 21) C dX11_tried_21 rfl ?_
      obtain ⟨r5, h6, eh6, hyp⟩ := bI_n hyp
      refine V_statI (pc := 22) C dX11_tried_22 lm_X11_175 ms_X11_areLamps (M_X11_areLamps _ eh6) rfl pd_X11_areLamps (by decide) (by decide) (by decide) (As := [.int a2]) (rest := []) rfl (Nat.le_of_ble_eq_true rfl) ?_
      refine V_if_ne (pc := 25) C dX11_tried_25 (tgt := 30) (by decide) (fun q7 => ?_) (fun q7 => ?_)
      · replace hyp := (if_neg q7).symm.trans hyp
        refine V_aload_n (pc := 30) C dX11_tried_30 rfl ?_
        refine V_getR (pc := 31) C dX11_tried_31 lf_X11_46 fk_0_4 ?_
        refine V_iconst (pc := 34) C dX11_tried_34 (v := 1) (by decide) ?_
        refine V_iload_n (pc := 35) C dX11_tried_35 rfl ?_
        refine V_iadd (pc := 36) C dX11_tried_36 ?_
        refine V_iload_n (pc := 37) C dX11_tried_37 rfl ?_
        obtain ⟨r8, h9, eh9, hyp⟩ := bI_n hyp
        refine V_callI (pc := 38) C dX11_tried_38 lm_X11_185 mk_X3_follow ok_39 rfl (M_X3_follow _ eh9) rfl pd_X3_follow (by decide) (by decide) (by decide) (As := [.int ((1 : Int32) + a1), .int a2]) (rest := []) rfl (Nat.le_of_ble_eq_true rfl) ?_
        cases hyp
        exact V_iret C dX11_tried_41
      · replace hyp := (if_pos q7).symm.trans hyp
        refine V_iconst (pc := 28) C dX11_tried_28 (v := -1) (by decide) ?_
        cases hyp
        exact V_iret C dX11_tried_29
theorem dX11_thought_0 : decode cX11_thought 0 = .ok (.aload_n 0, 1) := by decide +kernel
theorem dX11_thought_1 : decode cX11_thought 1 = .ok (.getfield 46, 3) := by decide +kernel
theorem dX11_thought_4 : decode cX11_thought 4 = .ok (.getfield 181, 3) := by decide +kernel
theorem dX11_thought_7 : decode cX11_thought 7 = .ok (.ifCond .eq 12, 3) := by decide +kernel
theorem dX11_thought_10 : decode cX11_thought 10 = .ok (.iload_n 1, 1) := by decide +kernel
theorem dX11_thought_11 : decode cX11_thought 11 = .ok (.ifCond .lt 8, 3) := by decide +kernel
theorem dX11_thought_14 : decode cX11_thought 14 = .ok (.iload_n 1, 1) := by decide +kernel
theorem dX11_thought_15 : decode cX11_thought 15 = .ok (.iconst 4, 1) := by decide +kernel
theorem dX11_thought_16 : decode cX11_thought 16 = .ok (.if_icmp .le 5, 3) := by decide +kernel
theorem dX11_thought_19 : decode cX11_thought 19 = .ok (.iconst (-1), 1) := by decide +kernel
theorem dX11_thought_20 : decode cX11_thought 20 = .ok (.ireturn, 1) := by decide +kernel
theorem dX11_thought_21 : decode cX11_thought 21 = .ok (.iload_n 1, 1) := by decide +kernel
theorem dX11_thought_22 : decode cX11_thought 22 = .ok (.ifCond .ne 11, 3) := by decide +kernel
theorem dX11_thought_25 : decode cX11_thought 25 = .ok (.aload_n 0, 1) := by decide +kernel
theorem dX11_thought_26 : decode cX11_thought 26 = .ok (.getfield 46, 3) := by decide +kernel
theorem dX11_thought_29 : decode cX11_thought 29 = .ok (.getfield 188, 3) := by decide +kernel
theorem dX11_thought_32 : decode cX11_thought 32 = .ok (.ireturn, 1) := by decide +kernel
theorem dX11_thought_33 : decode cX11_thought 33 = .ok (.aload_n 0, 1) := by decide +kernel
theorem dX11_thought_34 : decode cX11_thought 34 = .ok (.getfield 46, 3) := by decide +kernel
theorem dX11_thought_37 : decode cX11_thought 37 = .ok (.getfield 188, 3) := by decide +kernel
theorem dX11_thought_40 : decode cX11_thought 40 = .ok (.ifCond .ne 7, 3) := by decide +kernel
theorem dX11_thought_43 : decode cX11_thought 43 = .ok (.iconst (-1), 1) := by decide +kernel
theorem dX11_thought_44 : decode cX11_thought 44 = .ok (.goto 11, 3) := by decide +kernel
theorem dX11_thought_47 : decode cX11_thought 47 = .ok (.aload_n 0, 1) := by decide +kernel
theorem dX11_thought_48 : decode cX11_thought 48 = .ok (.getfield 46, 3) := by decide +kernel
theorem dX11_thought_51 : decode cX11_thought 51 = .ok (.iload_n 1, 1) := by decide +kernel
theorem dX11_thought_52 : decode cX11_thought 52 = .ok (.invokevirtual 191, 3) := by decide +kernel
theorem dX11_thought_55 : decode cX11_thought 55 = .ok (.ireturn, 1) := by decide +kernel
def F_X11_thought (N : Nat) (a1 : Int32) (h : PH) : Option (Int32 × PH) :=
  if (h.1 39 0) = 0 then
    some ((-1 : Int32), h)
  else
    if a1 < 0 then
      some ((-1 : Int32), h)
    else
      if a1 ≤ (4 : Int32) then
        if a1 = 0 then
          some (h.1 39 1, h)
        else
          if (h.1 39 1) = 0 then
            some ((-1 : Int32), h)
          else
            bI (F_X3_summary N a1 h) fun r6 h7 =>
            some (r6, h7)
      else
        some ((-1 : Int32), h)
set_option maxRecDepth 20000 in
set_option maxHeartbeats 4000000 in
theorem M_X11_thought (E : EV) {N : Nat} {a1 : Int32} {r : Int32} {h h2 : PH} (hyp : F_X11_thought N a1 h = some (r, h2)) : MI E 103 yX11_thought cX11_thought 2 (some .int) 2 48 [.ref 0, .int a1] h r h2 := by
  refine MI.of 0 (by decide) rfl (fun X e1 C => ?_)
  subst e1
  replace C : CX X 103 cX11_thought 2 RX11 (some .int) 2 48 := C
  show V X _ h 0 [some (.ref 0), some (.int a1)] []
  unfold F_X11_thought at hyp
  refine V_aload_n (pc := 0) C dX11_thought_0 rfl ?_
  refine V_getR (pc := 1) C dX11_thought_1 lf_X11_46 fk_0_4 ?_
  refine V_getI (pc := 4) C dX11_thought_4 lf_X11_181 fk_39_0 ?_
  refine V_if_eq (pc := 7) C dX11_thought_7 (tgt := 19) (by decide) (fun q1 => ?_) (fun q1 => ?_)
  · replace hyp := (if_pos q1).symm.trans hyp
    refine V_iconst (pc := 19) C dX11_thought_19 (v := -1) (by decide) ?_
    cases hyp
    exact V_iret C dX11_thought_20
  · replace hyp := (if_neg q1).symm.trans hyp
    refine V_iload_n (pc := 10) C dX11_thought_10 rfl ?_
    refine V_if_lt (pc := 11) C dX11_thought_11 (tgt := 19) (by decide) (fun q2 => ?_) (fun q2 => ?_)
    · replace hyp := (if_pos q2).symm.trans hyp
      refine V_iconst (pc := 19) C dX11_thought_19 (v := -1) (by decide) ?_
      cases hyp
      exact V_iret C dX11_thought_20
    · replace hyp := (if_neg q2).symm.trans hyp
      refine V_iload_n (pc := 14) C dX11_thought_14 rfl ?_
      refine V_iconst (pc := 15) C dX11_thought_15 (v := 4) (by decide) ?_
      refine V_icmp_le (pc := 16) C dX11_thought_16 (tgt := 21) (by decide) (fun q3 => ?_) (fun q3 => ?_)
      · replace hyp := (if_pos q3).symm.trans hyp
        refine V_iload_n (pc := 21) C dX11_thought_21 rfl ?_
        refine V_if_ne (pc := 22) C dX11_thought_22 (tgt := 33) (by decide) (fun q4 => ?_) (fun q4 => ?_)
        · replace hyp := (if_neg q4).symm.trans hyp
          refine V_aload_n (pc := 33) C dX11_thought_33 rfl ?_
          refine V_getR (pc := 34) C dX11_thought_34 lf_X11_46 fk_0_4 ?_
          refine V_getI (pc := 37) C dX11_thought_37 lf_X11_188 fk_39_1 ?_
          refine V_if_ne (pc := 40) C dX11_thought_40 (tgt := 47) (by decide) (fun q5 => ?_) (fun q5 => ?_)
          · replace hyp := (if_neg q5).symm.trans hyp
            refine V_aload_n (pc := 47) C dX11_thought_47 rfl ?_
            refine V_getR (pc := 48) C dX11_thought_48 lf_X11_46 fk_0_4 ?_
            refine V_iload_n (pc := 51) C dX11_thought_51 rfl ?_
            obtain ⟨r6, h7, eh7, hyp⟩ := bI_n hyp
            refine V_callI (pc := 52) C dX11_thought_52 lm_X11_191 mk_X3_summary ok_39 rfl (M_X3_summary _ eh7) rfl pd_X3_summary (by decide) (by decide) (by decide) (As := [.int a1]) (rest := []) rfl (Nat.le_of_ble_eq_true rfl) ?_
            cases hyp
            exact V_iret C dX11_thought_55
          · replace hyp := (if_pos q5).symm.trans hyp
            refine V_iconst (pc := 43) C dX11_thought_43 (v := -1) (by decide) ?_
            refine V_goto (pc := 44) C dX11_thought_44 (tgt := 55) (by decide) ?_
            cases hyp
            exact V_iret C dX11_thought_55
        · replace hyp := (if_pos q4).symm.trans hyp
          refine V_aload_n (pc := 25) C dX11_thought_25 rfl ?_
          refine V_getR (pc := 26) C dX11_thought_26 lf_X11_46 fk_0_4 ?_
          refine V_getI (pc := 29) C dX11_thought_29 lf_X11_188 fk_39_1 ?_
          cases hyp
          exact V_iret C dX11_thought_32
      · replace hyp := (if_neg q3).symm.trans hyp
        refine V_iconst (pc := 19) C dX11_thought_19 (v := -1) (by decide) ?_
        cases hyp
        exact V_iret C dX11_thought_20
theorem dX11_tests_0 : decode cX11_tests 0 = .ok (.aload_n 0, 1) := by decide +kernel
theorem dX11_tests_1 : decode cX11_tests 1 = .ok (.getfield 46, 3) := by decide +kernel
theorem dX11_tests_4 : decode cX11_tests 4 = .ok (.getfield 181, 3) := by decide +kernel
theorem dX11_tests_7 : decode cX11_tests 7 = .ok (.ifCond .eq 22, 3) := by decide +kernel
theorem dX11_tests_10 : decode cX11_tests 10 = .ok (.aload_n 0, 1) := by decide +kernel
theorem dX11_tests_11 : decode cX11_tests 11 = .ok (.getfield 46, 3) := by decide +kernel
theorem dX11_tests_14 : decode cX11_tests 14 = .ok (.getfield 188, 3) := by decide +kernel
theorem dX11_tests_17 : decode cX11_tests 17 = .ok (.ifCond .eq 12, 3) := by decide +kernel
theorem dX11_tests_20 : decode cX11_tests 20 = .ok (.iload_n 1, 1) := by decide +kernel
theorem dX11_tests_21 : decode cX11_tests 21 = .ok (.ifCond .lt 8, 3) := by decide +kernel
theorem dX11_tests_24 : decode cX11_tests 24 = .ok (.iload_n 1, 1) := by decide +kernel
theorem dX11_tests_25 : decode cX11_tests 25 = .ok (.iconst 1, 1) := by decide +kernel
theorem dX11_tests_26 : decode cX11_tests 26 = .ok (.if_icmp .le 5, 3) := by decide +kernel
theorem dX11_tests_29 : decode cX11_tests 29 = .ok (.iconst (-1), 1) := by decide +kernel
theorem dX11_tests_30 : decode cX11_tests 30 = .ok (.ireturn, 1) := by decide +kernel
theorem dX11_tests_31 : decode cX11_tests 31 = .ok (.aload_n 0, 1) := by decide +kernel
theorem dX11_tests_32 : decode cX11_tests 32 = .ok (.getfield 46, 3) := by decide +kernel
theorem dX11_tests_35 : decode cX11_tests 35 = .ok (.invokevirtual 194, 3) := by decide +kernel
theorem dX11_tests_38 : decode cX11_tests 38 = .ok (.iload_n 1, 1) := by decide +kernel
theorem dX11_tests_39 : decode cX11_tests 39 = .ok (.ifCond .ne 13, 3) := by decide +kernel
theorem dX11_tests_42 : decode cX11_tests 42 = .ok (.aload_n 0, 1) := by decide +kernel
theorem dX11_tests_43 : decode cX11_tests 43 = .ok (.getfield 46, 3) := by decide +kernel
theorem dX11_tests_46 : decode cX11_tests 46 = .ok (.getfield 196, 3) := by decide +kernel
theorem dX11_tests_49 : decode cX11_tests 49 = .ok (.goto 10, 3) := by decide +kernel
theorem dX11_tests_52 : decode cX11_tests 52 = .ok (.aload_n 0, 1) := by decide +kernel
theorem dX11_tests_53 : decode cX11_tests 53 = .ok (.getfield 46, 3) := by decide +kernel
theorem dX11_tests_56 : decode cX11_tests 56 = .ok (.getfield 199, 3) := by decide +kernel
theorem dX11_tests_59 : decode cX11_tests 59 = .ok (.ireturn, 1) := by decide +kernel
def F_X11_tests (N : Nat) (a1 : Int32) (h : PH) : Option (Int32 × PH) :=
  if (h.1 39 0) = 0 then
    some ((-1 : Int32), h)
  else
    if (h.1 39 1) = 0 then
      some ((-1 : Int32), h)
    else
      if a1 < 0 then
        some ((-1 : Int32), h)
      else
        if a1 ≤ (1 : Int32) then
          bV (F_X3_plan N  h) fun h6 =>
          if a1 = 0 then
            some (h6.1 39 2, h6)
          else
            some (h6.1 39 3, h6)
        else
          some ((-1 : Int32), h)
set_option maxRecDepth 20000 in
set_option maxHeartbeats 4000000 in
theorem M_X11_tests (E : EV) {N : Nat} {a1 : Int32} {r : Int32} {h h2 : PH} (hyp : F_X11_tests N a1 h = some (r, h2)) : MI E 103 yX11_tests cX11_tests 2 (some .int) 34 924 [.ref 0, .int a1] h r h2 := by
  refine MI.of 0 (by decide) rfl (fun X e1 C => ?_)
  subst e1
  replace C : CX X 103 cX11_tests 2 RX11 (some .int) 34 924 := C
  show V X _ h 0 [some (.ref 0), some (.int a1)] []
  unfold F_X11_tests at hyp
  refine V_aload_n (pc := 0) C dX11_tests_0 rfl ?_
  refine V_getR (pc := 1) C dX11_tests_1 lf_X11_46 fk_0_4 ?_
  refine V_getI (pc := 4) C dX11_tests_4 lf_X11_181 fk_39_0 ?_
  refine V_if_eq (pc := 7) C dX11_tests_7 (tgt := 29) (by decide) (fun q1 => ?_) (fun q1 => ?_)
  · replace hyp := (if_pos q1).symm.trans hyp
    refine V_iconst (pc := 29) C dX11_tests_29 (v := -1) (by decide) ?_
    cases hyp
    exact V_iret C dX11_tests_30
  · replace hyp := (if_neg q1).symm.trans hyp
    refine V_aload_n (pc := 10) C dX11_tests_10 rfl ?_
    refine V_getR (pc := 11) C dX11_tests_11 lf_X11_46 fk_0_4 ?_
    refine V_getI (pc := 14) C dX11_tests_14 lf_X11_188 fk_39_1 ?_
    refine V_if_eq (pc := 17) C dX11_tests_17 (tgt := 29) (by decide) (fun q2 => ?_) (fun q2 => ?_)
    · replace hyp := (if_pos q2).symm.trans hyp
      refine V_iconst (pc := 29) C dX11_tests_29 (v := -1) (by decide) ?_
      cases hyp
      exact V_iret C dX11_tests_30
    · replace hyp := (if_neg q2).symm.trans hyp
      refine V_iload_n (pc := 20) C dX11_tests_20 rfl ?_
      refine V_if_lt (pc := 21) C dX11_tests_21 (tgt := 29) (by decide) (fun q3 => ?_) (fun q3 => ?_)
      · replace hyp := (if_pos q3).symm.trans hyp
        refine V_iconst (pc := 29) C dX11_tests_29 (v := -1) (by decide) ?_
        cases hyp
        exact V_iret C dX11_tests_30
      · replace hyp := (if_neg q3).symm.trans hyp
        refine V_iload_n (pc := 24) C dX11_tests_24 rfl ?_
        refine V_iconst (pc := 25) C dX11_tests_25 (v := 1) (by decide) ?_
        refine V_icmp_le (pc := 26) C dX11_tests_26 (tgt := 31) (by decide) (fun q4 => ?_) (fun q4 => ?_)
        · replace hyp := (if_pos q4).symm.trans hyp
          refine V_aload_n (pc := 31) C dX11_tests_31 rfl ?_
          refine V_getR (pc := 32) C dX11_tests_32 lf_X11_46 fk_0_4 ?_
          obtain ⟨h6, eh6, hyp⟩ := bV_n hyp
          refine V_callV (pc := 35) C dX11_tests_35 lm_X11_194 mk_X3_plan ok_39 rfl (M_X3_plan _ eh6) rfl pd_X3_plan (by decide) (by decide) (by decide) (As := []) (rest := []) rfl (Nat.le_of_ble_eq_true rfl) ?_
          refine V_iload_n (pc := 38) C dX11_tests_38 rfl ?_
          refine V_if_ne (pc := 39) C dX11_tests_39 (tgt := 52) (by decide) (fun q7 => ?_) (fun q7 => ?_)
          · replace hyp := (if_neg q7).symm.trans hyp
            refine V_aload_n (pc := 52) C dX11_tests_52 rfl ?_
            refine V_getR (pc := 53) C dX11_tests_53 lf_X11_46 fk_0_4 ?_
            refine V_getI (pc := 56) C dX11_tests_56 lf_X11_199 fk_39_3 ?_
            cases hyp
            exact V_iret C dX11_tests_59
          · replace hyp := (if_pos q7).symm.trans hyp
            refine V_aload_n (pc := 42) C dX11_tests_42 rfl ?_
            refine V_getR (pc := 43) C dX11_tests_43 lf_X11_46 fk_0_4 ?_
            refine V_getI (pc := 46) C dX11_tests_46 lf_X11_196 fk_39_2 ?_
            refine V_goto (pc := 49) C dX11_tests_49 (tgt := 59) (by decide) ?_
            cases hyp
            exact V_iret C dX11_tests_59
        · replace hyp := (if_neg q4).symm.trans hyp
          refine V_iconst (pc := 29) C dX11_tests_29 (v := -1) (by decide) ?_
          cases hyp
          exact V_iret C dX11_tests_30
theorem dX11_cars_0 : decode cX11_cars 0 = .ok (.iload_n 1, 1) := by decide +kernel
theorem dX11_cars_1 : decode cX11_cars 1 = .ok (.iconst 1, 1) := by decide +kernel
theorem dX11_cars_2 : decode cX11_cars 2 = .ok (.if_icmp .lt 38, 3) := by decide +kernel
theorem dX11_cars_5 : decode cX11_cars 5 = .ok (.iload_n 1, 1) := by decide +kernel
theorem dX11_cars_6 : decode cX11_cars 6 = .ok (.iconst 2, 1) := by decide +kernel
theorem dX11_cars_7 : decode cX11_cars 7 = .ok (.if_icmp .gt 33, 3) := by decide +kernel
theorem dX11_cars_10 : decode cX11_cars 10 = .ok (.iload_n 2, 1) := by decide +kernel
theorem dX11_cars_11 : decode cX11_cars 11 = .ok (.iconst 1, 1) := by decide +kernel
theorem dX11_cars_12 : decode cX11_cars 12 = .ok (.if_icmp .lt 28, 3) := by decide +kernel
theorem dX11_cars_15 : decode cX11_cars 15 = .ok (.iload_n 2, 1) := by decide +kernel
theorem dX11_cars_16 : decode cX11_cars 16 = .ok (.bipush 8, 2) := by decide +kernel
theorem dX11_cars_18 : decode cX11_cars 18 = .ok (.if_icmp .gt 22, 3) := by decide +kernel
theorem dX11_cars_21 : decode cX11_cars 21 = .ok (.iload_n 3, 1) := by decide +kernel
theorem dX11_cars_22 : decode cX11_cars 22 = .ok (.ifCond .lt 18, 3) := by decide +kernel
theorem dX11_cars_25 : decode cX11_cars 25 = .ok (.iload_n 3, 1) := by decide +kernel
theorem dX11_cars_26 : decode cX11_cars 26 = .ok (.bipush 9, 2) := by decide +kernel
theorem dX11_cars_28 : decode cX11_cars 28 = .ok (.if_icmp .gt 12, 3) := by decide +kernel
theorem dX11_cars_31 : decode cX11_cars 31 = .ok (.aload_n 0, 1) := by decide +kernel
theorem dX11_cars_32 : decode cX11_cars 32 = .ok (.iload 4, 2) := by decide +kernel
theorem dX11_cars_34 : decode cX11_cars 34 = .ok (.invokevirtual 166, 3) := by decide +kernel
theorem dX11_cars_37 : decode cX11_cars 37 = .ok (.ifCond .ne 5, 3) := by decide +kernel
theorem dX11_cars_40 : decode cX11_cars 40 = .ok (.iconst 0, 1) := by decide +kernel
theorem dX11_cars_41 : decode cX11_cars 41 = .ok (.ireturn, 1) := by decide +kernel
theorem dX11_cars_42 : decode cX11_cars 42 = .ok (.aload_n 0, 1) := by decide +kernel
theorem dX11_cars_43 : decode cX11_cars 43 = .ok (.getfield 53, 3) := by decide +kernel
theorem dX11_cars_46 : decode cX11_cars 46 = .ok (.iload_n 1, 1) := by decide +kernel
theorem dX11_cars_47 : decode cX11_cars 47 = .ok (.iload_n 2, 1) := by decide +kernel
theorem dX11_cars_48 : decode cX11_cars 48 = .ok (.iload_n 3, 1) := by decide +kernel
theorem dX11_cars_49 : decode cX11_cars 49 = .ok (.iload 4, 2) := by decide +kernel
theorem dX11_cars_51 : decode cX11_cars 51 = .ok (.invokevirtual 202, 3) := by decide +kernel
theorem dX11_cars_54 : decode cX11_cars 54 = .ok (.iconst 1, 1) := by decide +kernel
theorem dX11_cars_55 : decode cX11_cars 55 = .ok (.ireturn, 1) := by decide +kernel
def F_X11_cars (a1 : Int32) (a2 : Int32) (a3 : Int32) (a4 : Int32) (h : PH) : Option (Int32 × PH) :=
  if a1 < (1 : Int32) then
    some ((0 : Int32), h)
  else
    if (2 : Int32) < a1 then
      some ((0 : Int32), h)
    else
      if a2 < (1 : Int32) then
        some ((0 : Int32), h)
      else
        if (8 : Int32) < a2 then
          some ((0 : Int32), h)
        else
          if a3 < 0 then
            some ((0 : Int32), h)
          else
            if (9 : Int32) < a3 then
              some ((0 : Int32), h)
            else
              bI (F_X11_isFloor a4 h) fun r7 h8 =>
              if r7 = 0 then
                some ((0 : Int32), h8)
              else
                bV (F_X6_setCars a1 a2 a3 a4 h8) fun h11 =>
                some ((1 : Int32), h11)
set_option maxRecDepth 20000 in
set_option maxHeartbeats 4000000 in
theorem M_X11_cars (E : EV) {a1 : Int32} {a2 : Int32} {a3 : Int32} {a4 : Int32} {r : Int32} {h h2 : PH} (hyp : F_X11_cars a1 a2 a3 a4 h = some (r, h2)) : MI E 103 yX11_cars cX11_cars 5 (some .boolean) 1 24 [.ref 0, .int a1, .int a2, .int a3, .int a4] h r h2 := by
  refine MI.of 0 (by decide) rfl (fun X e1 C => ?_)
  subst e1
  replace C : CX X 103 cX11_cars 5 RX11 (some .boolean) 1 24 := C
  show V X _ h 0 [some (.ref 0), some (.int a1), some (.int a2), some (.int a3), some (.int a4)] []
  unfold F_X11_cars at hyp
  refine V_iload_n (pc := 0) C dX11_cars_0 rfl ?_
  refine V_iconst (pc := 1) C dX11_cars_1 (v := 1) (by decide) ?_
  refine V_icmp_lt (pc := 2) C dX11_cars_2 (tgt := 40) (by decide) (fun q1 => ?_) (fun q1 => ?_)
  · replace hyp := (if_pos q1).symm.trans hyp
    refine V_iconst (pc := 40) C dX11_cars_40 (v := 0) (by decide) ?_
    cases hyp
    exact V_zret C dX11_cars_41 rfl
  · replace hyp := (if_neg q1).symm.trans hyp
    refine V_iload_n (pc := 5) C dX11_cars_5 rfl ?_
    refine V_iconst (pc := 6) C dX11_cars_6 (v := 2) (by decide) ?_
    refine V_icmp_gt (pc := 7) C dX11_cars_7 (tgt := 40) (by decide) (fun q2 => ?_) (fun q2 => ?_)
    · replace hyp := (if_pos q2).symm.trans hyp
      refine V_iconst (pc := 40) C dX11_cars_40 (v := 0) (by decide) ?_
      cases hyp
      exact V_zret C dX11_cars_41 rfl
    · replace hyp := (if_neg q2).symm.trans hyp
      refine V_iload_n (pc := 10) C dX11_cars_10 rfl ?_
      refine V_iconst (pc := 11) C dX11_cars_11 (v := 1) (by decide) ?_
      refine V_icmp_lt (pc := 12) C dX11_cars_12 (tgt := 40) (by decide) (fun q3 => ?_) (fun q3 => ?_)
      · replace hyp := (if_pos q3).symm.trans hyp
        refine V_iconst (pc := 40) C dX11_cars_40 (v := 0) (by decide) ?_
        cases hyp
        exact V_zret C dX11_cars_41 rfl
      · replace hyp := (if_neg q3).symm.trans hyp
        refine V_iload_n (pc := 15) C dX11_cars_15 rfl ?_
        refine V_bipush (pc := 16) C dX11_cars_16 (v := 8) (by decide) ?_
        refine V_icmp_gt (pc := 18) C dX11_cars_18 (tgt := 40) (by decide) (fun q4 => ?_) (fun q4 => ?_)
        · replace hyp := (if_pos q4).symm.trans hyp
          refine V_iconst (pc := 40) C dX11_cars_40 (v := 0) (by decide) ?_
          cases hyp
          exact V_zret C dX11_cars_41 rfl
        · replace hyp := (if_neg q4).symm.trans hyp
          refine V_iload_n (pc := 21) C dX11_cars_21 rfl ?_
          refine V_if_lt (pc := 22) C dX11_cars_22 (tgt := 40) (by decide) (fun q5 => ?_) (fun q5 => ?_)
          · replace hyp := (if_pos q5).symm.trans hyp
            refine V_iconst (pc := 40) C dX11_cars_40 (v := 0) (by decide) ?_
            cases hyp
            exact V_zret C dX11_cars_41 rfl
          · replace hyp := (if_neg q5).symm.trans hyp
            refine V_iload_n (pc := 25) C dX11_cars_25 rfl ?_
            refine V_bipush (pc := 26) C dX11_cars_26 (v := 9) (by decide) ?_
            refine V_icmp_gt (pc := 28) C dX11_cars_28 (tgt := 40) (by decide) (fun q6 => ?_) (fun q6 => ?_)
            · replace hyp := (if_pos q6).symm.trans hyp
              refine V_iconst (pc := 40) C dX11_cars_40 (v := 0) (by decide) ?_
              cases hyp
              exact V_zret C dX11_cars_41 rfl
            · replace hyp := (if_neg q6).symm.trans hyp
              refine V_aload_n (pc := 31) C dX11_cars_31 rfl ?_
              refine V_iload (pc := 32) C dX11_cars_32 rfl ?_
              obtain ⟨r7, h8, eh8, hyp⟩ := bI_n hyp
              refine V_callI (pc := 34) C dX11_cars_34 lm_X11_166 mk_X11_isFloor ok_0 rfl (M_X11_isFloor _ eh8) rfl pd_X11_isFloor (by decide) (by decide) (by decide) (As := [.int a4]) (rest := []) rfl (Nat.le_of_ble_eq_true rfl) ?_
              refine V_if_ne (pc := 37) C dX11_cars_37 (tgt := 42) (by decide) (fun q9 => ?_) (fun q9 => ?_)
              · replace hyp := (if_neg q9).symm.trans hyp
                refine V_aload_n (pc := 42) C dX11_cars_42 rfl ?_
                refine V_getR (pc := 43) C dX11_cars_43 lf_X11_53 fk_0_5 ?_
                refine V_iload_n (pc := 46) C dX11_cars_46 rfl ?_
                refine V_iload_n (pc := 47) C dX11_cars_47 rfl ?_
                refine V_iload_n (pc := 48) C dX11_cars_48 rfl ?_
                refine V_iload (pc := 49) C dX11_cars_49 rfl ?_
                obtain ⟨h11, eh11, hyp⟩ := bV_n hyp
                refine V_callV (pc := 51) C dX11_cars_51 lm_X11_202 mk_X6_setCars ok_51 rfl (M_X6_setCars _ eh11) rfl pd_X6_setCars (by decide) (by decide) (by decide) (As := [.int a1, .int a2, .int a3, .int a4]) (rest := []) rfl (Nat.le_of_ble_eq_true rfl) ?_
                refine V_iconst (pc := 54) C dX11_cars_54 (v := 1) (by decide) ?_
                cases hyp
                exact V_zret C dX11_cars_55 rfl
              · replace hyp := (if_pos q9).symm.trans hyp
                refine V_iconst (pc := 40) C dX11_cars_40 (v := 0) (by decide) ?_
                cases hyp
                exact V_zret C dX11_cars_41 rfl
theorem dX11_person_0 : decode cX11_person 0 = .ok (.iload_n 1, 1) := by decide +kernel
theorem dX11_person_1 : decode cX11_person 1 = .ok (.ifCond .lt 31, 3) := by decide +kernel
theorem dX11_person_4 : decode cX11_person 4 = .ok (.iload_n 1, 1) := by decide +kernel
theorem dX11_person_5 : decode cX11_person 5 = .ok (.sipush 300, 3) := by decide +kernel
theorem dX11_person_8 : decode cX11_person 8 = .ok (.if_icmp .gt 24, 3) := by decide +kernel
theorem dX11_person_11 : decode cX11_person 11 = .ok (.aload_n 0, 1) := by decide +kernel
theorem dX11_person_12 : decode cX11_person 12 = .ok (.iload_n 2, 1) := by decide +kernel
theorem dX11_person_13 : decode cX11_person 13 = .ok (.invokevirtual 166, 3) := by decide +kernel
theorem dX11_person_16 : decode cX11_person 16 = .ok (.ifCond .eq 16, 3) := by decide +kernel
theorem dX11_person_19 : decode cX11_person 19 = .ok (.aload_n 0, 1) := by decide +kernel
theorem dX11_person_20 : decode cX11_person 20 = .ok (.iload_n 3, 1) := by decide +kernel
theorem dX11_person_21 : decode cX11_person 21 = .ok (.invokevirtual 166, 3) := by decide +kernel
theorem dX11_person_24 : decode cX11_person 24 = .ok (.ifCond .eq 8, 3) := by decide +kernel
theorem dX11_person_27 : decode cX11_person 27 = .ok (.iload_n 2, 1) := by decide +kernel
theorem dX11_person_28 : decode cX11_person 28 = .ok (.iload_n 3, 1) := by decide +kernel
theorem dX11_person_29 : decode cX11_person 29 = .ok (.if_icmp .ne 5, 3) := by decide +kernel
theorem dX11_person_32 : decode cX11_person 32 = .ok (.iconst (-1), 1) := by decide +kernel
theorem dX11_person_33 : decode cX11_person 33 = .ok (.ireturn, 1) := by decide +kernel
theorem dX11_person_34 : decode cX11_person 34 = .ok (.aload_n 0, 1) := by decide +kernel
theorem dX11_person_35 : decode cX11_person 35 = .ok (.getfield 53, 3) := by decide +kernel
theorem dX11_person_38 : decode cX11_person 38 = .ok (.iload_n 1, 1) := by decide +kernel
theorem dX11_person_39 : decode cX11_person 39 = .ok (.iload_n 2, 1) := by decide +kernel
theorem dX11_person_40 : decode cX11_person 40 = .ok (.iload_n 3, 1) := by decide +kernel
theorem dX11_person_41 : decode cX11_person 41 = .ok (.invokevirtual 206, 3) := by decide +kernel
theorem dX11_person_44 : decode cX11_person 44 = .ok (.ireturn, 1) := by decide +kernel
def F_X11_person (a1 : Int32) (a2 : Int32) (a3 : Int32) (h : PH) : Option (Int32 × PH) :=
  if a1 < 0 then
    some ((-1 : Int32), h)
  else
    if (300 : Int32) < a1 then
      some ((-1 : Int32), h)
    else
      bI (F_X11_isFloor a2 h) fun r3 h4 =>
      if r3 = 0 then
        some ((-1 : Int32), h4)
      else
        bI (F_X11_isFloor a3 h4) fun r6 h7 =>
        if r6 = 0 then
          some ((-1 : Int32), h7)
        else
          if a2 = a3 then
            some ((-1 : Int32), h7)
          else
            bI (F_X6_addPerson a1 a2 a3 h7) fun r10 h11 =>
            some (r10, h11)
set_option maxRecDepth 20000 in
set_option maxHeartbeats 4000000 in
theorem M_X11_person (E : EV) {a1 : Int32} {a2 : Int32} {a3 : Int32} {r : Int32} {h h2 : PH} (hyp : F_X11_person a1 a2 a3 h = some (r, h2)) : MI E 103 yX11_person cX11_person 4 (some .int) 1 23 [.ref 0, .int a1, .int a2, .int a3] h r h2 := by
  refine MI.of 0 (by decide) rfl (fun X e1 C => ?_)
  subst e1
  replace C : CX X 103 cX11_person 4 RX11 (some .int) 1 23 := C
  show V X _ h 0 [some (.ref 0), some (.int a1), some (.int a2), some (.int a3)] []
  unfold F_X11_person at hyp
  refine V_iload_n (pc := 0) C dX11_person_0 rfl ?_
  refine V_if_lt (pc := 1) C dX11_person_1 (tgt := 32) (by decide) (fun q1 => ?_) (fun q1 => ?_)
  · replace hyp := (if_pos q1).symm.trans hyp
    refine V_iconst (pc := 32) C dX11_person_32 (v := -1) (by decide) ?_
    cases hyp
    exact V_iret C dX11_person_33
  · replace hyp := (if_neg q1).symm.trans hyp
    refine V_iload_n (pc := 4) C dX11_person_4 rfl ?_
    refine V_sipush (pc := 5) C dX11_person_5 (v := 300) (by decide) ?_
    refine V_icmp_gt (pc := 8) C dX11_person_8 (tgt := 32) (by decide) (fun q2 => ?_) (fun q2 => ?_)
    · replace hyp := (if_pos q2).symm.trans hyp
      refine V_iconst (pc := 32) C dX11_person_32 (v := -1) (by decide) ?_
      cases hyp
      exact V_iret C dX11_person_33
    · replace hyp := (if_neg q2).symm.trans hyp
      refine V_aload_n (pc := 11) C dX11_person_11 rfl ?_
      refine V_iload_n (pc := 12) C dX11_person_12 rfl ?_
      obtain ⟨r3, h4, eh4, hyp⟩ := bI_n hyp
      refine V_callI (pc := 13) C dX11_person_13 lm_X11_166 mk_X11_isFloor ok_0 rfl (M_X11_isFloor _ eh4) rfl pd_X11_isFloor (by decide) (by decide) (by decide) (As := [.int a2]) (rest := []) rfl (Nat.le_of_ble_eq_true rfl) ?_
      refine V_if_eq (pc := 16) C dX11_person_16 (tgt := 32) (by decide) (fun q5 => ?_) (fun q5 => ?_)
      · replace hyp := (if_pos q5).symm.trans hyp
        refine V_iconst (pc := 32) C dX11_person_32 (v := -1) (by decide) ?_
        cases hyp
        exact V_iret C dX11_person_33
      · replace hyp := (if_neg q5).symm.trans hyp
        refine V_aload_n (pc := 19) C dX11_person_19 rfl ?_
        refine V_iload_n (pc := 20) C dX11_person_20 rfl ?_
        obtain ⟨r6, h7, eh7, hyp⟩ := bI_n hyp
        refine V_callI (pc := 21) C dX11_person_21 lm_X11_166 mk_X11_isFloor ok_0 rfl (M_X11_isFloor _ eh7) rfl pd_X11_isFloor (by decide) (by decide) (by decide) (As := [.int a3]) (rest := []) rfl (Nat.le_of_ble_eq_true rfl) ?_
        refine V_if_eq (pc := 24) C dX11_person_24 (tgt := 32) (by decide) (fun q8 => ?_) (fun q8 => ?_)
        · replace hyp := (if_pos q8).symm.trans hyp
          refine V_iconst (pc := 32) C dX11_person_32 (v := -1) (by decide) ?_
          cases hyp
          exact V_iret C dX11_person_33
        · replace hyp := (if_neg q8).symm.trans hyp
          refine V_iload_n (pc := 27) C dX11_person_27 rfl ?_
          refine V_iload_n (pc := 28) C dX11_person_28 rfl ?_
          refine V_icmp_ne (pc := 29) C dX11_person_29 (tgt := 34) (by decide) (fun q9 => ?_) (fun q9 => ?_)
          · replace hyp := (if_neg q9).symm.trans hyp
            refine V_aload_n (pc := 34) C dX11_person_34 rfl ?_
            refine V_getR (pc := 35) C dX11_person_35 lf_X11_53 fk_0_5 ?_
            refine V_iload_n (pc := 38) C dX11_person_38 rfl ?_
            refine V_iload_n (pc := 39) C dX11_person_39 rfl ?_
            refine V_iload_n (pc := 40) C dX11_person_40 rfl ?_
            obtain ⟨r10, h11, eh11, hyp⟩ := bI_n hyp
            refine V_callI (pc := 41) C dX11_person_41 lm_X11_206 mk_X6_addPerson ok_51 rfl (M_X6_addPerson _ eh11) rfl pd_X6_addPerson (by decide) (by decide) (by decide) (As := [.int a1, .int a2, .int a3]) (rest := []) rfl (Nat.le_of_ble_eq_true rfl) ?_
            cases hyp
            exact V_iret C dX11_person_44
          · replace hyp := (if_pos q9).symm.trans hyp
            refine V_iconst (pc := 32) C dX11_person_32 (v := -1) (by decide) ?_
            cases hyp
            exact V_iret C dX11_person_33
theorem dX11_hold_0 : decode cX11_hold 0 = .ok (.iload_n 1, 1) := by decide +kernel
theorem dX11_hold_1 : decode cX11_hold 1 = .ok (.ifCond .lt 30, 3) := by decide +kernel
theorem dX11_hold_4 : decode cX11_hold 4 = .ok (.iload_n 1, 1) := by decide +kernel
theorem dX11_hold_5 : decode cX11_hold 5 = .ok (.sipush 900, 3) := by decide +kernel
theorem dX11_hold_8 : decode cX11_hold 8 = .ok (.if_icmp .ge 23, 3) := by decide +kernel
theorem dX11_hold_11 : decode cX11_hold 11 = .ok (.iload_n 2, 1) := by decide +kernel
theorem dX11_hold_12 : decode cX11_hold 12 = .ok (.ifCond .lt 19, 3) := by decide +kernel
theorem dX11_hold_15 : decode cX11_hold 15 = .ok (.iload_n 2, 1) := by decide +kernel
theorem dX11_hold_16 : decode cX11_hold 16 = .ok (.iconst 2, 1) := by decide +kernel
theorem dX11_hold_17 : decode cX11_hold 17 = .ok (.if_icmp .ge 14, 3) := by decide +kernel
theorem dX11_hold_20 : decode cX11_hold 20 = .ok (.iload_n 3, 1) := by decide +kernel
theorem dX11_hold_21 : decode cX11_hold 21 = .ok (.iconst 1, 1) := by decide +kernel
theorem dX11_hold_22 : decode cX11_hold 22 = .ok (.if_icmp .lt 9, 3) := by decide +kernel
theorem dX11_hold_25 : decode cX11_hold 25 = .ok (.iload_n 3, 1) := by decide +kernel
theorem dX11_hold_26 : decode cX11_hold 26 = .ok (.bipush 60, 2) := by decide +kernel
theorem dX11_hold_28 : decode cX11_hold 28 = .ok (.if_icmp .le 5, 3) := by decide +kernel
theorem dX11_hold_31 : decode cX11_hold 31 = .ok (.iconst 0, 1) := by decide +kernel
theorem dX11_hold_32 : decode cX11_hold 32 = .ok (.ireturn, 1) := by decide +kernel
theorem dX11_hold_33 : decode cX11_hold 33 = .ok (.aload_n 0, 1) := by decide +kernel
theorem dX11_hold_34 : decode cX11_hold 34 = .ok (.getfield 53, 3) := by decide +kernel
theorem dX11_hold_37 : decode cX11_hold 37 = .ok (.iload_n 1, 1) := by decide +kernel
theorem dX11_hold_38 : decode cX11_hold 38 = .ok (.iload_n 2, 1) := by decide +kernel
theorem dX11_hold_39 : decode cX11_hold 39 = .ok (.iload_n 3, 1) := by decide +kernel
theorem dX11_hold_40 : decode cX11_hold 40 = .ok (.invokevirtual 210, 3) := by decide +kernel
theorem dX11_hold_43 : decode cX11_hold 43 = .ok (.ireturn, 1) := by decide +kernel
def F_X11_hold (a1 : Int32) (a2 : Int32) (a3 : Int32) (h : PH) : Option (Int32 × PH) :=
  if a1 < 0 then
    some ((0 : Int32), h)
  else
    if (900 : Int32) ≤ a1 then
      some ((0 : Int32), h)
    else
      if a2 < 0 then
        some ((0 : Int32), h)
      else
        if (2 : Int32) ≤ a2 then
          some ((0 : Int32), h)
        else
          if a3 < (1 : Int32) then
            some ((0 : Int32), h)
          else
            if a3 ≤ (60 : Int32) then
              bI (F_X6_addHold a1 a2 a3 h) fun r7 h8 =>
              if zb r7 = true then
              some (r7, h8)
              else none
            else
              some ((0 : Int32), h)
set_option maxRecDepth 20000 in
set_option maxHeartbeats 4000000 in
theorem M_X11_hold (E : EV) {a1 : Int32} {a2 : Int32} {a3 : Int32} {r : Int32} {h h2 : PH} (hyp : F_X11_hold a1 a2 a3 h = some (r, h2)) : MI E 103 yX11_hold cX11_hold 4 (some .boolean) 1 23 [.ref 0, .int a1, .int a2, .int a3] h r h2 := by
  refine MI.of 0 (by decide) rfl (fun X e1 C => ?_)
  subst e1
  replace C : CX X 103 cX11_hold 4 RX11 (some .boolean) 1 23 := C
  show V X _ h 0 [some (.ref 0), some (.int a1), some (.int a2), some (.int a3)] []
  unfold F_X11_hold at hyp
  refine V_iload_n (pc := 0) C dX11_hold_0 rfl ?_
  refine V_if_lt (pc := 1) C dX11_hold_1 (tgt := 31) (by decide) (fun q1 => ?_) (fun q1 => ?_)
  · replace hyp := (if_pos q1).symm.trans hyp
    refine V_iconst (pc := 31) C dX11_hold_31 (v := 0) (by decide) ?_
    cases hyp
    exact V_zret C dX11_hold_32 rfl
  · replace hyp := (if_neg q1).symm.trans hyp
    refine V_iload_n (pc := 4) C dX11_hold_4 rfl ?_
    refine V_sipush (pc := 5) C dX11_hold_5 (v := 900) (by decide) ?_
    refine V_icmp_ge (pc := 8) C dX11_hold_8 (tgt := 31) (by decide) (fun q2 => ?_) (fun q2 => ?_)
    · replace hyp := (if_pos q2).symm.trans hyp
      refine V_iconst (pc := 31) C dX11_hold_31 (v := 0) (by decide) ?_
      cases hyp
      exact V_zret C dX11_hold_32 rfl
    · replace hyp := (if_neg q2).symm.trans hyp
      refine V_iload_n (pc := 11) C dX11_hold_11 rfl ?_
      refine V_if_lt (pc := 12) C dX11_hold_12 (tgt := 31) (by decide) (fun q3 => ?_) (fun q3 => ?_)
      · replace hyp := (if_pos q3).symm.trans hyp
        refine V_iconst (pc := 31) C dX11_hold_31 (v := 0) (by decide) ?_
        cases hyp
        exact V_zret C dX11_hold_32 rfl
      · replace hyp := (if_neg q3).symm.trans hyp
        refine V_iload_n (pc := 15) C dX11_hold_15 rfl ?_
        refine V_iconst (pc := 16) C dX11_hold_16 (v := 2) (by decide) ?_
        refine V_icmp_ge (pc := 17) C dX11_hold_17 (tgt := 31) (by decide) (fun q4 => ?_) (fun q4 => ?_)
        · replace hyp := (if_pos q4).symm.trans hyp
          refine V_iconst (pc := 31) C dX11_hold_31 (v := 0) (by decide) ?_
          cases hyp
          exact V_zret C dX11_hold_32 rfl
        · replace hyp := (if_neg q4).symm.trans hyp
          refine V_iload_n (pc := 20) C dX11_hold_20 rfl ?_
          refine V_iconst (pc := 21) C dX11_hold_21 (v := 1) (by decide) ?_
          refine V_icmp_lt (pc := 22) C dX11_hold_22 (tgt := 31) (by decide) (fun q5 => ?_) (fun q5 => ?_)
          · replace hyp := (if_pos q5).symm.trans hyp
            refine V_iconst (pc := 31) C dX11_hold_31 (v := 0) (by decide) ?_
            cases hyp
            exact V_zret C dX11_hold_32 rfl
          · replace hyp := (if_neg q5).symm.trans hyp
            refine V_iload_n (pc := 25) C dX11_hold_25 rfl ?_
            refine V_bipush (pc := 26) C dX11_hold_26 (v := 60) (by decide) ?_
            refine V_icmp_le (pc := 28) C dX11_hold_28 (tgt := 33) (by decide) (fun q6 => ?_) (fun q6 => ?_)
            · replace hyp := (if_pos q6).symm.trans hyp
              refine V_aload_n (pc := 33) C dX11_hold_33 rfl ?_
              refine V_getR (pc := 34) C dX11_hold_34 lf_X11_53 fk_0_5 ?_
              refine V_iload_n (pc := 37) C dX11_hold_37 rfl ?_
              refine V_iload_n (pc := 38) C dX11_hold_38 rfl ?_
              refine V_iload_n (pc := 39) C dX11_hold_39 rfl ?_
              obtain ⟨r7, h8, eh8, hyp⟩ := bI_n hyp
              refine V_callI (pc := 40) C dX11_hold_40 lm_X11_210 mk_X6_addHold ok_51 rfl (M_X6_addHold _ eh8) rfl pd_X6_addHold (by decide) (by decide) (by decide) (As := [.int a1, .int a2, .int a3]) (rest := []) rfl (Nat.le_of_ble_eq_true rfl) ?_
              obtain ⟨g9, hyp⟩ := gd_n hyp
              cases hyp
              exact V_zret C dX11_hold_43 (zb_n g9).1
            · replace hyp := (if_neg q6).symm.trans hyp
              refine V_iconst (pc := 31) C dX11_hold_31 (v := 0) (by decide) ?_
              cases hyp
              exact V_zret C dX11_hold_32 rfl
theorem dX11_fire_0 : decode cX11_fire 0 = .ok (.iload_n 1, 1) := by decide +kernel
theorem dX11_fire_1 : decode cX11_fire 1 = .ok (.iconst (-1), 1) := by decide +kernel
theorem dX11_fire_2 : decode cX11_fire 2 = .ok (.if_icmp .lt 10, 3) := by decide +kernel
theorem dX11_fire_5 : decode cX11_fire 5 = .ok (.iload_n 1, 1) := by decide +kernel
theorem dX11_fire_6 : decode cX11_fire 6 = .ok (.sipush 900, 3) := by decide +kernel
theorem dX11_fire_9 : decode cX11_fire 9 = .ok (.if_icmp .lt 5, 3) := by decide +kernel
theorem dX11_fire_12 : decode cX11_fire 12 = .ok (.iconst 0, 1) := by decide +kernel
theorem dX11_fire_13 : decode cX11_fire 13 = .ok (.ireturn, 1) := by decide +kernel
theorem dX11_fire_14 : decode cX11_fire 14 = .ok (.aload_n 0, 1) := by decide +kernel
theorem dX11_fire_15 : decode cX11_fire 15 = .ok (.getfield 53, 3) := by decide +kernel
theorem dX11_fire_18 : decode cX11_fire 18 = .ok (.iload_n 1, 1) := by decide +kernel
theorem dX11_fire_19 : decode cX11_fire 19 = .ok (.invokevirtual 214, 3) := by decide +kernel
theorem dX11_fire_22 : decode cX11_fire 22 = .ok (.iconst 1, 1) := by decide +kernel
theorem dX11_fire_23 : decode cX11_fire 23 = .ok (.ireturn, 1) := by decide +kernel
def F_X11_fire (a1 : Int32) (h : PH) : Option (Int32 × PH) :=
  if a1 < (-1 : Int32) then
    some ((0 : Int32), h)
  else
    if a1 < (900 : Int32) then
      bV (F_X6_setFire a1 h) fun h4 =>
      some ((1 : Int32), h4)
    else
      some ((0 : Int32), h)
set_option maxRecDepth 20000 in
set_option maxHeartbeats 4000000 in
theorem M_X11_fire (E : EV) {a1 : Int32} {r : Int32} {h h2 : PH} (hyp : F_X11_fire a1 h = some (r, h2)) : MI E 103 yX11_fire cX11_fire 2 (some .boolean) 1 21 [.ref 0, .int a1] h r h2 := by
  refine MI.of 0 (by decide) rfl (fun X e1 C => ?_)
  subst e1
  replace C : CX X 103 cX11_fire 2 RX11 (some .boolean) 1 21 := C
  show V X _ h 0 [some (.ref 0), some (.int a1)] []
  unfold F_X11_fire at hyp
  refine V_iload_n (pc := 0) C dX11_fire_0 rfl ?_
  refine V_iconst (pc := 1) C dX11_fire_1 (v := -1) (by decide) ?_
  refine V_icmp_lt (pc := 2) C dX11_fire_2 (tgt := 12) (by decide) (fun q1 => ?_) (fun q1 => ?_)
  · replace hyp := (if_pos q1).symm.trans hyp
    refine V_iconst (pc := 12) C dX11_fire_12 (v := 0) (by decide) ?_
    cases hyp
    exact V_zret C dX11_fire_13 rfl
  · replace hyp := (if_neg q1).symm.trans hyp
    refine V_iload_n (pc := 5) C dX11_fire_5 rfl ?_
    refine V_sipush (pc := 6) C dX11_fire_6 (v := 900) (by decide) ?_
    refine V_icmp_lt (pc := 9) C dX11_fire_9 (tgt := 14) (by decide) (fun q2 => ?_) (fun q2 => ?_)
    · replace hyp := (if_pos q2).symm.trans hyp
      refine V_aload_n (pc := 14) C dX11_fire_14 rfl ?_
      refine V_getR (pc := 15) C dX11_fire_15 lf_X11_53 fk_0_5 ?_
      refine V_iload_n (pc := 18) C dX11_fire_18 rfl ?_
      obtain ⟨h4, eh4, hyp⟩ := bV_n hyp
      refine V_callV (pc := 19) C dX11_fire_19 lm_X11_214 mk_X6_setFire ok_51 rfl (M_X6_setFire _ eh4) rfl pd_X6_setFire (by decide) (by decide) (by decide) (As := [.int a1]) (rest := []) rfl (Nat.le_of_ble_eq_true rfl) ?_
      refine V_iconst (pc := 22) C dX11_fire_22 (v := 1) (by decide) ?_
      cases hyp
      exact V_zret C dX11_fire_23 rfl
    · replace hyp := (if_neg q2).symm.trans hyp
      refine V_iconst (pc := 12) C dX11_fire_12 (v := 0) (by decide) ?_
      cases hyp
      exact V_zret C dX11_fire_13 rfl
theorem dX11_nobody_0 : decode cX11_nobody 0 = .ok (.aload_n 0, 1) := by decide +kernel
theorem dX11_nobody_1 : decode cX11_nobody 1 = .ok (.getfield 53, 3) := by decide +kernel
theorem dX11_nobody_4 : decode cX11_nobody 4 = .ok (.invokevirtual 217, 3) := by decide +kernel
theorem dX11_nobody_7 : decode cX11_nobody 7 = .ok (.iconst 1, 1) := by decide +kernel
theorem dX11_nobody_8 : decode cX11_nobody 8 = .ok (.ireturn, 1) := by decide +kernel
def F_X11_nobody (h : PH) : Option (Int32 × PH) :=
  bV (F_X6_dismiss  h) fun h2 =>
  some ((1 : Int32), h2)
set_option maxRecDepth 20000 in
set_option maxHeartbeats 4000000 in
theorem M_X11_nobody (E : EV) {r : Int32} {h h2 : PH} (hyp : F_X11_nobody  h = some (r, h2)) : MI E 103 yX11_nobody cX11_nobody 1 (some .boolean) 1 20 [.ref 0] h r h2 := by
  refine MI.of 0 (by decide) rfl (fun X e1 C => ?_)
  subst e1
  replace C : CX X 103 cX11_nobody 1 RX11 (some .boolean) 1 20 := C
  show V X _ h 0 [some (.ref 0)] []
  unfold F_X11_nobody at hyp
  refine V_aload_n (pc := 0) C dX11_nobody_0 rfl ?_
  refine V_getR (pc := 1) C dX11_nobody_1 lf_X11_53 fk_0_5 ?_
  obtain ⟨h2, eh2, hyp⟩ := bV_n hyp
  refine V_callV (pc := 4) C dX11_nobody_4 lm_X11_217 mk_X6_dismiss ok_51 rfl (M_X6_dismiss _ eh2) rfl pd_X6_dismiss (by decide) (by decide) (by decide) (As := []) (rest := []) rfl (Nat.le_of_ble_eq_true rfl) ?_
  refine V_iconst (pc := 7) C dX11_nobody_7 (v := 1) (by decide) ?_
  cases hyp
  exact V_zret C dX11_nobody_8 rfl
theorem dX11_run_0 : decode cX11_run 0 = .ok (.aload_n 0, 1) := by decide +kernel
theorem dX11_run_1 : decode cX11_run 1 = .ok (.getfield 62, 3) := by decide +kernel
theorem dX11_run_4 : decode cX11_run 4 = .ok (.invokevirtual 220, 3) := by decide +kernel
theorem dX11_run_7 : decode cX11_run 7 = .ok (.aload_n 0, 1) := by decide +kernel
theorem dX11_run_8 : decode cX11_run 8 = .ok (.getfield 62, 3) := by decide +kernel
theorem dX11_run_11 : decode cX11_run 11 = .ok (.getfield 223, 3) := by decide +kernel
theorem dX11_run_14 : decode cX11_run 14 = .ok (.ireturn, 1) := by decide +kernel
def F_X11_run (N : Nat) (h : PH) : Option (Int32 × PH) :=
  bV (F_X10_catchUp N 64 h) fun h2 =>
  some (h2.1 64 8, h2)
set_option maxRecDepth 20000 in
set_option maxHeartbeats 4000000 in
theorem M_X11_run (E : EV) {N : Nat} {r : Int32} {h h2 : PH} (hyp : F_X11_run N  h = some (r, h2)) : MI E 103 yX11_run cX11_run 1 (some .int) 7 165 [.ref 0] h r h2 := by
  refine MI.of 0 (by decide) rfl (fun X e1 C => ?_)
  subst e1
  replace C : CX X 103 cX11_run 1 RX11 (some .int) 7 165 := C
  show V X _ h 0 [some (.ref 0)] []
  unfold F_X11_run at hyp
  refine V_aload_n (pc := 0) C dX11_run_0 rfl ?_
  refine V_getR (pc := 1) C dX11_run_1 lf_X11_62 fk_0_6 ?_
  obtain ⟨h2, eh2, hyp⟩ := bV_n hyp
  refine V_callV (pc := 4) C dX11_run_4 lm_X11_220 mk_X10_catchUp ok_64 rfl (M_X10_catchUp _ isT_64 eh2) rfl pd_X10_catchUp (by decide) (by decide) (by decide) (As := []) (rest := []) rfl (Nat.le_of_ble_eq_true rfl) ?_
  refine V_aload_n (pc := 7) C dX11_run_7 rfl ?_
  refine V_getR (pc := 8) C dX11_run_8 lf_X11_62 fk_0_6 ?_
  refine V_getI (pc := 11) C dX11_run_11 lf_X11_223 fk_64_8 ?_
  cases hyp
  exact V_iret C dX11_run_14
theorem dX11_rode_0 : decode cX11_rode 0 = .ok (.aload_n 0, 1) := by decide +kernel
theorem dX11_rode_1 : decode cX11_rode 1 = .ok (.getfield 62, 3) := by decide +kernel
theorem dX11_rode_4 : decode cX11_rode 4 = .ok (.invokevirtual 220, 3) := by decide +kernel
theorem dX11_rode_7 : decode cX11_rode 7 = .ok (.iload_n 1, 1) := by decide +kernel
theorem dX11_rode_8 : decode cX11_rode 8 = .ok (.ifCond .lt 14, 3) := by decide +kernel
theorem dX11_rode_11 : decode cX11_rode 11 = .ok (.iload_n 1, 1) := by decide +kernel
theorem dX11_rode_12 : decode cX11_rode 12 = .ok (.aload_n 0, 1) := by decide +kernel
theorem dX11_rode_13 : decode cX11_rode 13 = .ok (.getfield 62, 3) := by decide +kernel
theorem dX11_rode_16 : decode cX11_rode 16 = .ok (.getfield 226, 3) := by decide +kernel
theorem dX11_rode_19 : decode cX11_rode 19 = .ok (.if_icmp .lt 5, 3) := by decide +kernel
theorem dX11_rode_22 : decode cX11_rode 22 = .ok (.iconst (-1), 1) := by decide +kernel
theorem dX11_rode_23 : decode cX11_rode 23 = .ok (.ireturn, 1) := by decide +kernel
theorem dX11_rode_24 : decode cX11_rode 24 = .ok (.iload_n 2, 1) := by decide +kernel
theorem dX11_rode_25 : decode cX11_rode 25 = .ok (.tableswitch 71 0 3 #[31, 41, 51, 61], 31) := by decide +kernel
theorem dX11_rode_56 : decode cX11_rode 56 = .ok (.aload_n 0, 1) := by decide +kernel
theorem dX11_rode_57 : decode cX11_rode 57 = .ok (.getfield 62, 3) := by decide +kernel
theorem dX11_rode_60 : decode cX11_rode 60 = .ok (.getfield 229, 3) := by decide +kernel
theorem dX11_rode_63 : decode cX11_rode 63 = .ok (.iload_n 1, 1) := by decide +kernel
theorem dX11_rode_64 : decode cX11_rode 64 = .ok (.iaload, 1) := by decide +kernel
theorem dX11_rode_65 : decode cX11_rode 65 = .ok (.ireturn, 1) := by decide +kernel
theorem dX11_rode_66 : decode cX11_rode 66 = .ok (.aload_n 0, 1) := by decide +kernel
theorem dX11_rode_67 : decode cX11_rode 67 = .ok (.getfield 62, 3) := by decide +kernel
theorem dX11_rode_70 : decode cX11_rode 70 = .ok (.getfield 233, 3) := by decide +kernel
theorem dX11_rode_73 : decode cX11_rode 73 = .ok (.iload_n 1, 1) := by decide +kernel
theorem dX11_rode_74 : decode cX11_rode 74 = .ok (.iaload, 1) := by decide +kernel
theorem dX11_rode_75 : decode cX11_rode 75 = .ok (.ireturn, 1) := by decide +kernel
theorem dX11_rode_76 : decode cX11_rode 76 = .ok (.aload_n 0, 1) := by decide +kernel
theorem dX11_rode_77 : decode cX11_rode 77 = .ok (.getfield 62, 3) := by decide +kernel
theorem dX11_rode_80 : decode cX11_rode 80 = .ok (.getfield 236, 3) := by decide +kernel
theorem dX11_rode_83 : decode cX11_rode 83 = .ok (.iload_n 1, 1) := by decide +kernel
theorem dX11_rode_84 : decode cX11_rode 84 = .ok (.iaload, 1) := by decide +kernel
theorem dX11_rode_85 : decode cX11_rode 85 = .ok (.ireturn, 1) := by decide +kernel
theorem dX11_rode_86 : decode cX11_rode 86 = .ok (.aload_n 0, 1) := by decide +kernel
theorem dX11_rode_87 : decode cX11_rode 87 = .ok (.getfield 62, 3) := by decide +kernel
theorem dX11_rode_90 : decode cX11_rode 90 = .ok (.getfield 239, 3) := by decide +kernel
theorem dX11_rode_93 : decode cX11_rode 93 = .ok (.iload_n 1, 1) := by decide +kernel
theorem dX11_rode_94 : decode cX11_rode 94 = .ok (.iaload, 1) := by decide +kernel
theorem dX11_rode_95 : decode cX11_rode 95 = .ok (.ireturn, 1) := by decide +kernel
theorem dX11_rode_96 : decode cX11_rode 96 = .ok (.iconst (-1), 1) := by decide +kernel
theorem dX11_rode_97 : decode cX11_rode 97 = .ok (.ireturn, 1) := by decide +kernel
def F_X11_rode (N : Nat) (a1 : Int32) (a2 : Int32) (h : PH) : Option (Int32 × PH) :=
  bV (F_X10_catchUp N 64 h) fun h2 =>
  if a1 < 0 then
    some ((-1 : Int32), h2)
  else
    if a1 < (h2.1 64 7) then
      if a2 = (0 : Int32) then
        if inb a1 24 = true then
        some (h2.1 65 a1.toNatClampNeg, h2)
        else none
      else
      if a2 = (1 : Int32) then
        if inb a1 24 = true then
        some (h2.1 66 a1.toNatClampNeg, h2)
        else none
      else
      if a2 = (2 : Int32) then
        if inb a1 24 = true then
        some (h2.1 67 a1.toNatClampNeg, h2)
        else none
      else
      if a2 = (3 : Int32) then
        if inb a1 24 = true then
        some (h2.1 68 a1.toNatClampNeg, h2)
        else none
      else
      some ((-1 : Int32), h2)
    else
      some ((-1 : Int32), h2)
set_option maxRecDepth 20000 in
set_option maxHeartbeats 4000000 in
theorem M_X11_rode (E : EV) {N : Nat} {a1 : Int32} {a2 : Int32} {r : Int32} {h h2 : PH} (hyp : F_X11_rode N a1 a2 h = some (r, h2)) : MI E 103 yX11_rode cX11_rode 3 (some .int) 7 165 [.ref 0, .int a1, .int a2] h r h2 := by
  refine MI.of 0 (by decide) rfl (fun X e1 C => ?_)
  subst e1
  replace C : CX X 103 cX11_rode 3 RX11 (some .int) 7 165 := C
  show V X _ h 0 [some (.ref 0), some (.int a1), some (.int a2)] []
  unfold F_X11_rode at hyp
  refine V_aload_n (pc := 0) C dX11_rode_0 rfl ?_
  refine V_getR (pc := 1) C dX11_rode_1 lf_X11_62 fk_0_6 ?_
  obtain ⟨h2, eh2, hyp⟩ := bV_n hyp
  refine V_callV (pc := 4) C dX11_rode_4 lm_X11_220 mk_X10_catchUp ok_64 rfl (M_X10_catchUp _ isT_64 eh2) rfl pd_X10_catchUp (by decide) (by decide) (by decide) (As := []) (rest := []) rfl (Nat.le_of_ble_eq_true rfl) ?_
  refine V_iload_n (pc := 7) C dX11_rode_7 rfl ?_
  refine V_if_lt (pc := 8) C dX11_rode_8 (tgt := 22) (by decide) (fun q3 => ?_) (fun q3 => ?_)
  · replace hyp := (if_pos q3).symm.trans hyp
    refine V_iconst (pc := 22) C dX11_rode_22 (v := -1) (by decide) ?_
    cases hyp
    exact V_iret C dX11_rode_23
  · replace hyp := (if_neg q3).symm.trans hyp
    refine V_iload_n (pc := 11) C dX11_rode_11 rfl ?_
    refine V_aload_n (pc := 12) C dX11_rode_12 rfl ?_
    refine V_getR (pc := 13) C dX11_rode_13 lf_X11_62 fk_0_6 ?_
    refine V_getI (pc := 16) C dX11_rode_16 lf_X11_226 fk_64_7 ?_
    refine V_icmp_lt (pc := 19) C dX11_rode_19 (tgt := 24) (by decide) (fun q4 => ?_) (fun q4 => ?_)
    · replace hyp := (if_pos q4).symm.trans hyp
      refine V_iload_n (pc := 24) C dX11_rode_24 rfl ?_
      by_cases q5 : a2 = (0 : Int32)
      · replace hyp := (if_pos q5).symm.trans hyp
        refine V_tsIn (pc := 25) C (0 : Int32) dX11_rode_25 (off := 31) (tgt := 56) q5 (by decide) (by decide) rfl (by decide) ?_
        refine V_aload_n (pc := 56) C dX11_rode_56 rfl ?_
        refine V_getR (pc := 57) C dX11_rode_57 lf_X11_62 fk_0_6 ?_
        refine V_getR (pc := 60) C dX11_rode_60 lf_X11_229 fk_64_0 ?_
        refine V_iload_n (pc := 63) C dX11_rode_63 rfl ?_
        obtain ⟨g6, hyp⟩ := gd_n hyp
        refine V_iald (pc := 64) C dX11_rode_64 ak_65 g6 ?_
        cases hyp
        exact V_iret C dX11_rode_65
      · replace hyp := (if_neg q5).symm.trans hyp
        by_cases q7 : a2 = (1 : Int32)
        · replace hyp := (if_pos q7).symm.trans hyp
          refine V_tsIn (pc := 25) C (1 : Int32) dX11_rode_25 (off := 41) (tgt := 66) q7 (by decide) (by decide) rfl (by decide) ?_
          refine V_aload_n (pc := 66) C dX11_rode_66 rfl ?_
          refine V_getR (pc := 67) C dX11_rode_67 lf_X11_62 fk_0_6 ?_
          refine V_getR (pc := 70) C dX11_rode_70 lf_X11_233 fk_64_1 ?_
          refine V_iload_n (pc := 73) C dX11_rode_73 rfl ?_
          obtain ⟨g8, hyp⟩ := gd_n hyp
          refine V_iald (pc := 74) C dX11_rode_74 ak_66 g8 ?_
          cases hyp
          exact V_iret C dX11_rode_75
        · replace hyp := (if_neg q7).symm.trans hyp
          by_cases q9 : a2 = (2 : Int32)
          · replace hyp := (if_pos q9).symm.trans hyp
            refine V_tsIn (pc := 25) C (2 : Int32) dX11_rode_25 (off := 51) (tgt := 76) q9 (by decide) (by decide) rfl (by decide) ?_
            refine V_aload_n (pc := 76) C dX11_rode_76 rfl ?_
            refine V_getR (pc := 77) C dX11_rode_77 lf_X11_62 fk_0_6 ?_
            refine V_getR (pc := 80) C dX11_rode_80 lf_X11_236 fk_64_2 ?_
            refine V_iload_n (pc := 83) C dX11_rode_83 rfl ?_
            obtain ⟨g10, hyp⟩ := gd_n hyp
            refine V_iald (pc := 84) C dX11_rode_84 ak_67 g10 ?_
            cases hyp
            exact V_iret C dX11_rode_85
          · replace hyp := (if_neg q9).symm.trans hyp
            by_cases q11 : a2 = (3 : Int32)
            · replace hyp := (if_pos q11).symm.trans hyp
              refine V_tsIn (pc := 25) C (3 : Int32) dX11_rode_25 (off := 61) (tgt := 86) q11 (by decide) (by decide) rfl (by decide) ?_
              refine V_aload_n (pc := 86) C dX11_rode_86 rfl ?_
              refine V_getR (pc := 87) C dX11_rode_87 lf_X11_62 fk_0_6 ?_
              refine V_getR (pc := 90) C dX11_rode_90 lf_X11_239 fk_64_3 ?_
              refine V_iload_n (pc := 93) C dX11_rode_93 rfl ?_
              obtain ⟨g12, hyp⟩ := gd_n hyp
              refine V_iald (pc := 94) C dX11_rode_94 ak_68 g12 ?_
              cases hyp
              exact V_iret C dX11_rode_95
            · replace hyp := (if_neg q11).symm.trans hyp
              refine V_tsOut (pc := 25) C dX11_rode_25 (tgt := 96) (fun k k1 k2 => ?_) (by decide) ?_
              · rcases (show k = 0 ∨ k = 1 ∨ k = 2 ∨ k = 3 by omega) with rfl | rfl | rfl | rfl
                · exact q5
                · exact q7
                · exact q9
                · exact q11
              · refine V_iconst (pc := 96) C dX11_rode_96 (v := -1) (by decide) ?_
                cases hyp
                exact V_iret C dX11_rode_97
    · replace hyp := (if_neg q4).symm.trans hyp
      refine V_iconst (pc := 22) C dX11_rode_22 (v := -1) (by decide) ?_
      cases hyp
      exact V_iret C dX11_rode_23
theorem dX11_waits_0 : decode cX11_waits 0 = .ok (.aload_n 0, 1) := by decide +kernel
theorem dX11_waits_1 : decode cX11_waits 1 = .ok (.getfield 62, 3) := by decide +kernel
theorem dX11_waits_4 : decode cX11_waits 4 = .ok (.invokevirtual 220, 3) := by decide +kernel
theorem dX11_waits_7 : decode cX11_waits 7 = .ok (.aload_n 0, 1) := by decide +kernel
theorem dX11_waits_8 : decode cX11_waits 8 = .ok (.getfield 62, 3) := by decide +kernel
theorem dX11_waits_11 : decode cX11_waits 11 = .ok (.getfield 226, 3) := by decide +kernel
theorem dX11_waits_14 : decode cX11_waits 14 = .ok (.ifCond .ne 5, 3) := by decide +kernel
theorem dX11_waits_17 : decode cX11_waits 17 = .ok (.iconst (-1), 1) := by decide +kernel
theorem dX11_waits_18 : decode cX11_waits 18 = .ok (.ireturn, 1) := by decide +kernel
theorem dX11_waits_19 : decode cX11_waits 19 = .ok (.iload_n 1, 1) := by decide +kernel
theorem dX11_waits_20 : decode cX11_waits 20 = .ok (.tableswitch 72 0 3 #[32, 40, 56, 64], 32) := by decide +kernel
theorem dX11_waits_52 : decode cX11_waits 52 = .ok (.aload_n 0, 1) := by decide +kernel
theorem dX11_waits_53 : decode cX11_waits 53 = .ok (.getfield 62, 3) := by decide +kernel
theorem dX11_waits_56 : decode cX11_waits 56 = .ok (.invokevirtual 242, 3) := by decide +kernel
theorem dX11_waits_59 : decode cX11_waits 59 = .ok (.ireturn, 1) := by decide +kernel
theorem dX11_waits_60 : decode cX11_waits 60 = .ok (.aload_n 0, 1) := by decide +kernel
theorem dX11_waits_61 : decode cX11_waits 61 = .ok (.getfield 62, 3) := by decide +kernel
theorem dX11_waits_64 : decode cX11_waits 64 = .ok (.getfield 239, 3) := by decide +kernel
theorem dX11_waits_67 : decode cX11_waits 67 = .ok (.aload_n 0, 1) := by decide +kernel
theorem dX11_waits_68 : decode cX11_waits 68 = .ok (.getfield 62, 3) := by decide +kernel
theorem dX11_waits_71 : decode cX11_waits 71 = .ok (.invokevirtual 245, 3) := by decide +kernel
theorem dX11_waits_74 : decode cX11_waits 74 = .ok (.iaload, 1) := by decide +kernel
theorem dX11_waits_75 : decode cX11_waits 75 = .ok (.ireturn, 1) := by decide +kernel
theorem dX11_waits_76 : decode cX11_waits 76 = .ok (.aload_n 0, 1) := by decide +kernel
theorem dX11_waits_77 : decode cX11_waits 77 = .ok (.getfield 62, 3) := by decide +kernel
theorem dX11_waits_80 : decode cX11_waits 80 = .ok (.invokevirtual 245, 3) := by decide +kernel
theorem dX11_waits_83 : decode cX11_waits 83 = .ok (.ireturn, 1) := by decide +kernel
theorem dX11_waits_84 : decode cX11_waits 84 = .ok (.aload_n 0, 1) := by decide +kernel
theorem dX11_waits_85 : decode cX11_waits 85 = .ok (.getfield 62, 3) := by decide +kernel
theorem dX11_waits_88 : decode cX11_waits 88 = .ok (.invokevirtual 248, 3) := by decide +kernel
theorem dX11_waits_91 : decode cX11_waits 91 = .ok (.ireturn, 1) := by decide +kernel
theorem dX11_waits_92 : decode cX11_waits 92 = .ok (.iconst (-1), 1) := by decide +kernel
theorem dX11_waits_93 : decode cX11_waits 93 = .ok (.ireturn, 1) := by decide +kernel
def F_X11_waits (N : Nat) (a1 : Int32) (h : PH) : Option (Int32 × PH) :=
  bV (F_X10_catchUp N 64 h) fun h2 =>
  if (h2.1 64 7) = 0 then
    some ((-1 : Int32), h2)
  else
    if a1 = (0 : Int32) then
      bI (F_X10_sumOfWaits N 64 h2) fun r5 h6 =>
      some (r5, h6)
    else
    if a1 = (1 : Int32) then
      bI (F_X10_longestWaiter N 64 h2) fun r8 h9 =>
      if inb r8 24 = true then
      some (h9.1 68 r8.toNatClampNeg, h9)
      else none
    else
    if a1 = (2 : Int32) then
      bI (F_X10_longestWaiter N 64 h2) fun r12 h13 =>
      some (r12, h13)
    else
    if a1 = (3 : Int32) then
      bI (F_X10_howManyOut 64 h2) fun r15 h16 =>
      some (r15, h16)
    else
    some ((-1 : Int32), h2)
set_option maxRecDepth 20000 in
set_option maxHeartbeats 4000000 in
theorem M_X11_waits (E : EV) {N : Nat} {a1 : Int32} {r : Int32} {h h2 : PH} (hyp : F_X11_waits N a1 h = some (r, h2)) : MI E 103 yX11_waits cX11_waits 2 (some .int) 7 165 [.ref 0, .int a1] h r h2 := by
  refine MI.of 0 (by decide) rfl (fun X e1 C => ?_)
  subst e1
  replace C : CX X 103 cX11_waits 2 RX11 (some .int) 7 165 := C
  show V X _ h 0 [some (.ref 0), some (.int a1)] []
  unfold F_X11_waits at hyp
  refine V_aload_n (pc := 0) C dX11_waits_0 rfl ?_
  refine V_getR (pc := 1) C dX11_waits_1 lf_X11_62 fk_0_6 ?_
  obtain ⟨h2, eh2, hyp⟩ := bV_n hyp
  refine V_callV (pc := 4) C dX11_waits_4 lm_X11_220 mk_X10_catchUp ok_64 rfl (M_X10_catchUp _ isT_64 eh2) rfl pd_X10_catchUp (by decide) (by decide) (by decide) (As := []) (rest := []) rfl (Nat.le_of_ble_eq_true rfl) ?_
  refine V_aload_n (pc := 7) C dX11_waits_7 rfl ?_
  refine V_getR (pc := 8) C dX11_waits_8 lf_X11_62 fk_0_6 ?_
  refine V_getI (pc := 11) C dX11_waits_11 lf_X11_226 fk_64_7 ?_
  refine V_if_ne (pc := 14) C dX11_waits_14 (tgt := 19) (by decide) (fun q3 => ?_) (fun q3 => ?_)
  · replace hyp := (if_neg q3).symm.trans hyp
    refine V_iload_n (pc := 19) C dX11_waits_19 rfl ?_
    by_cases q4 : a1 = (0 : Int32)
    · replace hyp := (if_pos q4).symm.trans hyp
      refine V_tsIn (pc := 20) C (0 : Int32) dX11_waits_20 (off := 32) (tgt := 52) q4 (by decide) (by decide) rfl (by decide) ?_
      refine V_aload_n (pc := 52) C dX11_waits_52 rfl ?_
      refine V_getR (pc := 53) C dX11_waits_53 lf_X11_62 fk_0_6 ?_
      obtain ⟨r5, h6, eh6, hyp⟩ := bI_n hyp
      refine V_callI (pc := 56) C dX11_waits_56 lm_X11_242 mk_X10_sumOfWaits ok_64 rfl (M_X10_sumOfWaits _ isT_64 eh6) rfl pd_X10_sumOfWaits (by decide) (by decide) (by decide) (As := []) (rest := []) rfl (Nat.le_of_ble_eq_true rfl) ?_
      cases hyp
      exact V_iret C dX11_waits_59
    · replace hyp := (if_neg q4).symm.trans hyp
      by_cases q7 : a1 = (1 : Int32)
      · replace hyp := (if_pos q7).symm.trans hyp
        refine V_tsIn (pc := 20) C (1 : Int32) dX11_waits_20 (off := 40) (tgt := 60) q7 (by decide) (by decide) rfl (by decide) ?_
        refine V_aload_n (pc := 60) C dX11_waits_60 rfl ?_
        refine V_getR (pc := 61) C dX11_waits_61 lf_X11_62 fk_0_6 ?_
        refine V_getR (pc := 64) C dX11_waits_64 lf_X11_239 fk_64_3 ?_
        refine V_aload_n (pc := 67) C dX11_waits_67 rfl ?_
        refine V_getR (pc := 68) C dX11_waits_68 lf_X11_62 fk_0_6 ?_
        obtain ⟨r8, h9, eh9, hyp⟩ := bI_n hyp
        refine V_callI (pc := 71) C dX11_waits_71 lm_X11_245 mk_X10_longestWaiter ok_64 rfl (M_X10_longestWaiter _ isT_64 eh9) rfl pd_X10_longestWaiter (by decide) (by decide) (by decide) (As := []) (rest := [.ref 68]) rfl (Nat.le_of_ble_eq_true rfl) ?_
        obtain ⟨g10, hyp⟩ := gd_n hyp
        refine V_iald (pc := 74) C dX11_waits_74 ak_68 g10 ?_
        cases hyp
        exact V_iret C dX11_waits_75
      · replace hyp := (if_neg q7).symm.trans hyp
        by_cases q11 : a1 = (2 : Int32)
        · replace hyp := (if_pos q11).symm.trans hyp
          refine V_tsIn (pc := 20) C (2 : Int32) dX11_waits_20 (off := 56) (tgt := 76) q11 (by decide) (by decide) rfl (by decide) ?_
          refine V_aload_n (pc := 76) C dX11_waits_76 rfl ?_
          refine V_getR (pc := 77) C dX11_waits_77 lf_X11_62 fk_0_6 ?_
          obtain ⟨r12, h13, eh13, hyp⟩ := bI_n hyp
          refine V_callI (pc := 80) C dX11_waits_80 lm_X11_245 mk_X10_longestWaiter ok_64 rfl (M_X10_longestWaiter _ isT_64 eh13) rfl pd_X10_longestWaiter (by decide) (by decide) (by decide) (As := []) (rest := []) rfl (Nat.le_of_ble_eq_true rfl) ?_
          cases hyp
          exact V_iret C dX11_waits_83
        · replace hyp := (if_neg q11).symm.trans hyp
          by_cases q14 : a1 = (3 : Int32)
          · replace hyp := (if_pos q14).symm.trans hyp
            refine V_tsIn (pc := 20) C (3 : Int32) dX11_waits_20 (off := 64) (tgt := 84) q14 (by decide) (by decide) rfl (by decide) ?_
            refine V_aload_n (pc := 84) C dX11_waits_84 rfl ?_
            refine V_getR (pc := 85) C dX11_waits_85 lf_X11_62 fk_0_6 ?_
            obtain ⟨r15, h16, eh16, hyp⟩ := bI_n hyp
            refine V_callI (pc := 88) C dX11_waits_88 lm_X11_248 mk_X10_howManyOut ok_64 rfl (M_X10_howManyOut _ isT_64 eh16) rfl pd_X10_howManyOut (by decide) (by decide) (by decide) (As := []) (rest := []) rfl (Nat.le_of_ble_eq_true rfl) ?_
            cases hyp
            exact V_iret C dX11_waits_91
          · replace hyp := (if_neg q14).symm.trans hyp
            refine V_tsOut (pc := 20) C dX11_waits_20 (tgt := 92) (fun k k1 k2 => ?_) (by decide) ?_
            · rcases (show k = 0 ∨ k = 1 ∨ k = 2 ∨ k = 3 by omega) with rfl | rfl | rfl | rfl
              · exact q4
              · exact q7
              · exact q11
              · exact q14
            · refine V_iconst (pc := 92) C dX11_waits_92 (v := -1) (by decide) ?_
              cases hyp
              exact V_iret C dX11_waits_93
  · replace hyp := (if_pos q3).symm.trans hyp
    refine V_iconst (pc := 17) C dX11_waits_17 (v := -1) (by decide) ?_
    cases hyp
    exact V_iret C dX11_waits_18
theorem dX11_moved_0 : decode cX11_moved 0 = .ok (.iload_n 1, 1) := by decide +kernel
theorem dX11_moved_1 : decode cX11_moved 1 = .ok (.ifCond .lt 31, 3) := by decide +kernel
theorem dX11_moved_4 : decode cX11_moved 4 = .ok (.iload_n 1, 1) := by decide +kernel
theorem dX11_moved_5 : decode cX11_moved 5 = .ok (.aload_n 0, 1) := by decide +kernel
theorem dX11_moved_6 : decode cX11_moved 6 = .ok (.getfield 53, 3) := by decide +kernel
theorem dX11_moved_9 : decode cX11_moved 9 = .ok (.getfield 251, 3) := by decide +kernel
theorem dX11_moved_12 : decode cX11_moved 12 = .ok (.if_icmp .ge 20, 3) := by decide +kernel
theorem dX11_moved_15 : decode cX11_moved 15 = .ok (.iload_n 2, 1) := by decide +kernel
theorem dX11_moved_16 : decode cX11_moved 16 = .ok (.ifCond .lt 16, 3) := by decide +kernel
theorem dX11_moved_19 : decode cX11_moved 19 = .ok (.iload_n 2, 1) := by decide +kernel
theorem dX11_moved_20 : decode cX11_moved 20 = .ok (.aload_n 0, 1) := by decide +kernel
theorem dX11_moved_21 : decode cX11_moved 21 = .ok (.getfield 53, 3) := by decide +kernel
theorem dX11_moved_24 : decode cX11_moved 24 = .ok (.getfield 254, 3) := by decide +kernel
theorem dX11_moved_27 : decode cX11_moved 27 = .ok (.iconst 1, 1) := by decide +kernel
theorem dX11_moved_28 : decode cX11_moved 28 = .ok (.isub, 1) := by decide +kernel
theorem dX11_moved_29 : decode cX11_moved 29 = .ok (.if_icmp .lt 5, 3) := by decide +kernel
theorem dX11_moved_32 : decode cX11_moved 32 = .ok (.iconst (-1), 1) := by decide +kernel
theorem dX11_moved_33 : decode cX11_moved 33 = .ok (.ireturn, 1) := by decide +kernel
theorem dX11_moved_34 : decode cX11_moved 34 = .ok (.aload_n 0, 1) := by decide +kernel
theorem dX11_moved_35 : decode cX11_moved 35 = .ok (.getfield 62, 3) := by decide +kernel
theorem dX11_moved_38 : decode cX11_moved 38 = .ok (.invokevirtual 220, 3) := by decide +kernel
theorem dX11_moved_41 : decode cX11_moved 41 = .ok (.aload_n 0, 1) := by decide +kernel
theorem dX11_moved_42 : decode cX11_moved 42 = .ok (.getfield 62, 3) := by decide +kernel
theorem dX11_moved_45 : decode cX11_moved 45 = .ok (.getfield 255, 3) := by decide +kernel
theorem dX11_moved_48 : decode cX11_moved 48 = .ok (.iload_n 1, 1) := by decide +kernel
theorem dX11_moved_49 : decode cX11_moved 49 = .ok (.aaload, 1) := by decide +kernel
theorem dX11_moved_50 : decode cX11_moved 50 = .ok (.iload_n 2, 1) := by decide +kernel
theorem dX11_moved_51 : decode cX11_moved 51 = .ok (.iaload, 1) := by decide +kernel
theorem dX11_moved_52 : decode cX11_moved 52 = .ok (.ireturn, 1) := by decide +kernel
def F_X11_moved (N : Nat) (a1 : Int32) (a2 : Int32) (h : PH) : Option (Int32 × PH) :=
  if a1 < 0 then
    some ((-1 : Int32), h)
  else
    if (h.1 51 8) ≤ a1 then
      some ((-1 : Int32), h)
    else
      if a2 < 0 then
        some ((-1 : Int32), h)
      else
        if a2 < ((h.1 51 7) - (1 : Int32)) then
          bV (F_X10_catchUp N 64 h) fun h6 =>
          if inb a1 2 = true then
          if inb a2 5 = true then
          some (h6.1 (71 + a1.toNatClampNeg) a2.toNatClampNeg, h6)
          else none
          else none
        else
          some ((-1 : Int32), h)
set_option maxRecDepth 20000 in
set_option maxHeartbeats 4000000 in
theorem M_X11_moved (E : EV) {N : Nat} {a1 : Int32} {a2 : Int32} {r : Int32} {h h2 : PH} (hyp : F_X11_moved N a1 a2 h = some (r, h2)) : MI E 103 yX11_moved cX11_moved 3 (some .int) 7 165 [.ref 0, .int a1, .int a2] h r h2 := by
  refine MI.of 0 (by decide) rfl (fun X e1 C => ?_)
  subst e1
  replace C : CX X 103 cX11_moved 3 RX11 (some .int) 7 165 := C
  show V X _ h 0 [some (.ref 0), some (.int a1), some (.int a2)] []
  unfold F_X11_moved at hyp
  refine V_iload_n (pc := 0) C dX11_moved_0 rfl ?_
  refine V_if_lt (pc := 1) C dX11_moved_1 (tgt := 32) (by decide) (fun q1 => ?_) (fun q1 => ?_)
  · replace hyp := (if_pos q1).symm.trans hyp
    refine V_iconst (pc := 32) C dX11_moved_32 (v := -1) (by decide) ?_
    cases hyp
    exact V_iret C dX11_moved_33
  · replace hyp := (if_neg q1).symm.trans hyp
    refine V_iload_n (pc := 4) C dX11_moved_4 rfl ?_
    refine V_aload_n (pc := 5) C dX11_moved_5 rfl ?_
    refine V_getR (pc := 6) C dX11_moved_6 lf_X11_53 fk_0_5 ?_
    refine V_getI (pc := 9) C dX11_moved_9 lf_X11_251 fk_51_8 ?_
    refine V_icmp_ge (pc := 12) C dX11_moved_12 (tgt := 32) (by decide) (fun q2 => ?_) (fun q2 => ?_)
    · replace hyp := (if_pos q2).symm.trans hyp
      refine V_iconst (pc := 32) C dX11_moved_32 (v := -1) (by decide) ?_
      cases hyp
      exact V_iret C dX11_moved_33
    · replace hyp := (if_neg q2).symm.trans hyp
      refine V_iload_n (pc := 15) C dX11_moved_15 rfl ?_
      refine V_if_lt (pc := 16) C dX11_moved_16 (tgt := 32) (by decide) (fun q3 => ?_) (fun q3 => ?_)
      · replace hyp := (if_pos q3).symm.trans hyp
        refine V_iconst (pc := 32) C dX11_moved_32 (v := -1) (by decide) ?_
        cases hyp
        exact V_iret C dX11_moved_33
      · replace hyp := (if_neg q3).symm.trans hyp
        refine V_iload_n (pc := 19) C dX11_moved_19 rfl ?_
        refine V_aload_n (pc := 20) C dX11_moved_20 rfl ?_
        refine V_getR (pc := 21) C dX11_moved_21 lf_X11_53 fk_0_5 ?_
        refine V_getI (pc := 24) C dX11_moved_24 lf_X11_254 fk_51_7 ?_
        refine V_iconst (pc := 27) C dX11_moved_27 (v := 1) (by decide) ?_
        refine V_isub (pc := 28) C dX11_moved_28 ?_
        refine V_icmp_lt (pc := 29) C dX11_moved_29 (tgt := 34) (by decide) (fun q4 => ?_) (fun q4 => ?_)
        · replace hyp := (if_pos q4).symm.trans hyp
          refine V_aload_n (pc := 34) C dX11_moved_34 rfl ?_
          refine V_getR (pc := 35) C dX11_moved_35 lf_X11_62 fk_0_6 ?_
          obtain ⟨h6, eh6, hyp⟩ := bV_n hyp
          refine V_callV (pc := 38) C dX11_moved_38 lm_X11_220 mk_X10_catchUp ok_64 rfl (M_X10_catchUp _ isT_64 eh6) rfl pd_X10_catchUp (by decide) (by decide) (by decide) (As := []) (rest := []) rfl (Nat.le_of_ble_eq_true rfl) ?_
          refine V_aload_n (pc := 41) C dX11_moved_41 rfl ?_
          refine V_getR (pc := 42) C dX11_moved_42 lf_X11_62 fk_0_6 ?_
          refine V_getR (pc := 45) C dX11_moved_45 lf_X11_255 fk_64_5 ?_
          refine V_iload_n (pc := 48) C dX11_moved_48 rfl ?_
          obtain ⟨g7, hyp⟩ := gd_n hyp
          refine V_aald (pc := 49) C dX11_moved_49 ak_70 g7 ?_
          refine V_iload_n (pc := 50) C dX11_moved_50 rfl ?_
          obtain ⟨g8, hyp⟩ := gd_n hyp
          refine V_iald (pc := 51) C dX11_moved_51 (akr_70 g7) g8 ?_
          cases hyp
          exact V_iret C dX11_moved_52
        · replace hyp := (if_neg q4).symm.trans hyp
          refine V_iconst (pc := 32) C dX11_moved_32 (v := -1) (by decide) ?_
          cases hyp
          exact V_iret C dX11_moved_33
theorem dX11_stopped_0 : decode cX11_stopped 0 = .ok (.iload_n 1, 1) := by decide +kernel
theorem dX11_stopped_1 : decode cX11_stopped 1 = .ok (.ifCond .lt 14, 3) := by decide +kernel
theorem dX11_stopped_4 : decode cX11_stopped 4 = .ok (.iload_n 1, 1) := by decide +kernel
theorem dX11_stopped_5 : decode cX11_stopped 5 = .ok (.aload_n 0, 1) := by decide +kernel
theorem dX11_stopped_6 : decode cX11_stopped 6 = .ok (.getfield 53, 3) := by decide +kernel
theorem dX11_stopped_9 : decode cX11_stopped 9 = .ok (.getfield 251, 3) := by decide +kernel
theorem dX11_stopped_12 : decode cX11_stopped 12 = .ok (.if_icmp .lt 5, 3) := by decide +kernel
theorem dX11_stopped_15 : decode cX11_stopped 15 = .ok (.iconst (-1), 1) := by decide +kernel
theorem dX11_stopped_16 : decode cX11_stopped 16 = .ok (.ireturn, 1) := by decide +kernel
theorem dX11_stopped_17 : decode cX11_stopped 17 = .ok (.aload_n 0, 1) := by decide +kernel
theorem dX11_stopped_18 : decode cX11_stopped 18 = .ok (.getfield 62, 3) := by decide +kernel
theorem dX11_stopped_21 : decode cX11_stopped 21 = .ok (.invokevirtual 220, 3) := by decide +kernel
theorem dX11_stopped_24 : decode cX11_stopped 24 = .ok (.aload_n 0, 1) := by decide +kernel
theorem dX11_stopped_25 : decode cX11_stopped 25 = .ok (.getfield 62, 3) := by decide +kernel
theorem dX11_stopped_28 : decode cX11_stopped 28 = .ok (.getfield 259, 3) := by decide +kernel
theorem dX11_stopped_31 : decode cX11_stopped 31 = .ok (.iload_n 1, 1) := by decide +kernel
theorem dX11_stopped_32 : decode cX11_stopped 32 = .ok (.iaload, 1) := by decide +kernel
theorem dX11_stopped_33 : decode cX11_stopped 33 = .ok (.ireturn, 1) := by decide +kernel
def F_X11_stopped (N : Nat) (a1 : Int32) (h : PH) : Option (Int32 × PH) :=
  if a1 < 0 then
    some ((-1 : Int32), h)
  else
    if a1 < (h.1 51 8) then
      bV (F_X10_catchUp N 64 h) fun h4 =>
      if inb a1 2 = true then
      some (h4.1 69 a1.toNatClampNeg, h4)
      else none
    else
      some ((-1 : Int32), h)
set_option maxRecDepth 20000 in
set_option maxHeartbeats 4000000 in
theorem M_X11_stopped (E : EV) {N : Nat} {a1 : Int32} {r : Int32} {h h2 : PH} (hyp : F_X11_stopped N a1 h = some (r, h2)) : MI E 103 yX11_stopped cX11_stopped 2 (some .int) 7 165 [.ref 0, .int a1] h r h2 := by
  refine MI.of 0 (by decide) rfl (fun X e1 C => ?_)
  subst e1
  replace C : CX X 103 cX11_stopped 2 RX11 (some .int) 7 165 := C
  show V X _ h 0 [some (.ref 0), some (.int a1)] []
  unfold F_X11_stopped at hyp
  refine V_iload_n (pc := 0) C dX11_stopped_0 rfl ?_
  refine V_if_lt (pc := 1) C dX11_stopped_1 (tgt := 15) (by decide) (fun q1 => ?_) (fun q1 => ?_)
  · replace hyp := (if_pos q1).symm.trans hyp
    refine V_iconst (pc := 15) C dX11_stopped_15 (v := -1) (by decide) ?_
    cases hyp
    exact V_iret C dX11_stopped_16
  · replace hyp := (if_neg q1).symm.trans hyp
    refine V_iload_n (pc := 4) C dX11_stopped_4 rfl ?_
    refine V_aload_n (pc := 5) C dX11_stopped_5 rfl ?_
    refine V_getR (pc := 6) C dX11_stopped_6 lf_X11_53 fk_0_5 ?_
    refine V_getI (pc := 9) C dX11_stopped_9 lf_X11_251 fk_51_8 ?_
    refine V_icmp_lt (pc := 12) C dX11_stopped_12 (tgt := 17) (by decide) (fun q2 => ?_) (fun q2 => ?_)
    · replace hyp := (if_pos q2).symm.trans hyp
      refine V_aload_n (pc := 17) C dX11_stopped_17 rfl ?_
      refine V_getR (pc := 18) C dX11_stopped_18 lf_X11_62 fk_0_6 ?_
      obtain ⟨h4, eh4, hyp⟩ := bV_n hyp
      refine V_callV (pc := 21) C dX11_stopped_21 lm_X11_220 mk_X10_catchUp ok_64 rfl (M_X10_catchUp _ isT_64 eh4) rfl pd_X10_catchUp (by decide) (by decide) (by decide) (As := []) (rest := []) rfl (Nat.le_of_ble_eq_true rfl) ?_
      refine V_aload_n (pc := 24) C dX11_stopped_24 rfl ?_
      refine V_getR (pc := 25) C dX11_stopped_25 lf_X11_62 fk_0_6 ?_
      refine V_getR (pc := 28) C dX11_stopped_28 lf_X11_259 fk_64_4 ?_
      refine V_iload_n (pc := 31) C dX11_stopped_31 rfl ?_
      obtain ⟨g5, hyp⟩ := gd_n hyp
      refine V_iald (pc := 32) C dX11_stopped_32 ak_69 g5 ?_
      cases hyp
      exact V_iret C dX11_stopped_33
    · replace hyp := (if_neg q2).symm.trans hyp
      refine V_iconst (pc := 15) C dX11_stopped_15 (v := -1) (by decide) ?_
      cases hyp
      exact V_iret C dX11_stopped_16
theorem dX11_best_0 : decode cX11_best 0 = .ok (.iload_n 1, 1) := by decide +kernel
theorem dX11_best_1 : decode cX11_best 1 = .ok (.ifCond .lt 17, 3) := by decide +kernel
theorem dX11_best_4 : decode cX11_best 4 = .ok (.iload_n 1, 1) := by decide +kernel
theorem dX11_best_5 : decode cX11_best 5 = .ok (.iconst 3, 1) := by decide +kernel
theorem dX11_best_6 : decode cX11_best 6 = .ok (.if_icmp .ge 12, 3) := by decide +kernel
theorem dX11_best_9 : decode cX11_best 9 = .ok (.iload_n 2, 1) := by decide +kernel
theorem dX11_best_10 : decode cX11_best 10 = .ok (.ifCond .lt 8, 3) := by decide +kernel
theorem dX11_best_13 : decode cX11_best 13 = .ok (.iload_n 2, 1) := by decide +kernel
theorem dX11_best_14 : decode cX11_best 14 = .ok (.iconst 1, 1) := by decide +kernel
theorem dX11_best_15 : decode cX11_best 15 = .ok (.if_icmp .le 5, 3) := by decide +kernel
theorem dX11_best_18 : decode cX11_best 18 = .ok (.iconst (-1), 1) := by decide +kernel
theorem dX11_best_19 : decode cX11_best 19 = .ok (.ireturn, 1) := by decide +kernel
theorem dX11_best_20 : decode cX11_best 20 = .ok (.aload_n 0, 1) := by decide +kernel
theorem dX11_best_21 : decode cX11_best 21 = .ok (.getfield 53, 3) := by decide +kernel
theorem dX11_best_24 : decode cX11_best 24 = .ok (.getfield 262, 3) := by decide +kernel
theorem dX11_best_27 : decode cX11_best 27 = .ok (.ifCond .eq 15, 3) := by decide +kernel
theorem dX11_best_30 : decode cX11_best 30 = .ok (.aload_n 0, 1) := by decide +kernel
theorem dX11_best_31 : decode cX11_best 31 = .ok (.getfield 53, 3) := by decide +kernel
theorem dX11_best_34 : decode cX11_best 34 = .ok (.getfield 262, 3) := by decide +kernel
theorem dX11_best_37 : decode cX11_best 37 = .ok (.bipush 8, 2) := by decide +kernel
theorem dX11_best_39 : decode cX11_best 39 = .ok (.if_icmp .le 5, 3) := by decide +kernel
theorem dX11_best_42 : decode cX11_best 42 = .ok (.iconst (-1), 1) := by decide +kernel
theorem dX11_best_43 : decode cX11_best 43 = .ok (.ireturn, 1) := by decide +kernel
theorem dX11_best_44 : decode cX11_best 44 = .ok (.aload_n 0, 1) := by decide +kernel
theorem dX11_best_45 : decode cX11_best 45 = .ok (.getfield 69, 3) := by decide +kernel
theorem dX11_best_48 : decode cX11_best 48 = .ok (.invokevirtual 263, 3) := by decide +kernel
theorem dX11_best_51 : decode cX11_best 51 = .ok (.iload_n 2, 1) := by decide +kernel
theorem dX11_best_52 : decode cX11_best 52 = .ok (.ifCond .ne 15, 3) := by decide +kernel
theorem dX11_best_55 : decode cX11_best 55 = .ok (.aload_n 0, 1) := by decide +kernel
theorem dX11_best_56 : decode cX11_best 56 = .ok (.getfield 69, 3) := by decide +kernel
theorem dX11_best_59 : decode cX11_best 59 = .ok (.getfield 266, 3) := by decide +kernel
theorem dX11_best_62 : decode cX11_best 62 = .ok (.iload_n 1, 1) := by decide +kernel
theorem dX11_best_63 : decode cX11_best 63 = .ok (.iaload, 1) := by decide +kernel
theorem dX11_best_64 : decode cX11_best 64 = .ok (.goto 12, 3) := by decide +kernel
theorem dX11_best_67 : decode cX11_best 67 = .ok (.aload_n 0, 1) := by decide +kernel
theorem dX11_best_68 : decode cX11_best 68 = .ok (.getfield 69, 3) := by decide +kernel
theorem dX11_best_71 : decode cX11_best 71 = .ok (.getfield 269, 3) := by decide +kernel
theorem dX11_best_74 : decode cX11_best 74 = .ok (.iload_n 1, 1) := by decide +kernel
theorem dX11_best_75 : decode cX11_best 75 = .ok (.iaload, 1) := by decide +kernel
theorem dX11_best_76 : decode cX11_best 76 = .ok (.ireturn, 1) := by decide +kernel
def F_X11_best (N : Nat) (a1 : Int32) (a2 : Int32) (h : PH) : Option (Int32 × PH) :=
  if a1 < 0 then
    some ((-1 : Int32), h)
  else
    if (3 : Int32) ≤ a1 then
      some ((-1 : Int32), h)
    else
      if a2 < 0 then
        some ((-1 : Int32), h)
      else
        if a2 ≤ (1 : Int32) then
          if (h.1 51 12) = 0 then
            some ((-1 : Int32), h)
          else
            if (h.1 51 12) ≤ (8 : Int32) then
              bV (F_X1_weighAll N  h) fun h8 =>
              if a2 = 0 then
                if inb a1 3 = true then
                some (h8.1 81 a1.toNatClampNeg, h8)
                else none
              else
                if inb a1 3 = true then
                some (h8.1 82 a1.toNatClampNeg, h8)
                else none
            else
              some ((-1 : Int32), h)
        else
          some ((-1 : Int32), h)
set_option maxRecDepth 20000 in
set_option maxHeartbeats 4000000 in
theorem M_X11_best (E : EV) {N : Nat} {a1 : Int32} {a2 : Int32} {r : Int32} {h h2 : PH} (hyp : F_X11_best N a1 a2 h = some (r, h2)) : MI E 103 yX11_best cX11_best 3 (some .int) 7 167 [.ref 0, .int a1, .int a2] h r h2 := by
  refine MI.of 0 (by decide) rfl (fun X e1 C => ?_)
  subst e1
  replace C : CX X 103 cX11_best 3 RX11 (some .int) 7 167 := C
  show V X _ h 0 [some (.ref 0), some (.int a1), some (.int a2)] []
  unfold F_X11_best at hyp
  refine V_iload_n (pc := 0) C dX11_best_0 rfl ?_
  refine V_if_lt (pc := 1) C dX11_best_1 (tgt := 18) (by decide) (fun q1 => ?_) (fun q1 => ?_)
  · replace hyp := (if_pos q1).symm.trans hyp
    refine V_iconst (pc := 18) C dX11_best_18 (v := -1) (by decide) ?_
    cases hyp
    exact V_iret C dX11_best_19
  · replace hyp := (if_neg q1).symm.trans hyp
    refine V_iload_n (pc := 4) C dX11_best_4 rfl ?_
    refine V_iconst (pc := 5) C dX11_best_5 (v := 3) (by decide) ?_
    refine V_icmp_ge (pc := 6) C dX11_best_6 (tgt := 18) (by decide) (fun q2 => ?_) (fun q2 => ?_)
    · replace hyp := (if_pos q2).symm.trans hyp
      refine V_iconst (pc := 18) C dX11_best_18 (v := -1) (by decide) ?_
      cases hyp
      exact V_iret C dX11_best_19
    · replace hyp := (if_neg q2).symm.trans hyp
      refine V_iload_n (pc := 9) C dX11_best_9 rfl ?_
      refine V_if_lt (pc := 10) C dX11_best_10 (tgt := 18) (by decide) (fun q3 => ?_) (fun q3 => ?_)
      · replace hyp := (if_pos q3).symm.trans hyp
        refine V_iconst (pc := 18) C dX11_best_18 (v := -1) (by decide) ?_
        cases hyp
        exact V_iret C dX11_best_19
      · replace hyp := (if_neg q3).symm.trans hyp
        refine V_iload_n (pc := 13) C dX11_best_13 rfl ?_
        refine V_iconst (pc := 14) C dX11_best_14 (v := 1) (by decide) ?_
        refine V_icmp_le (pc := 15) C dX11_best_15 (tgt := 20) (by decide) (fun q4 => ?_) (fun q4 => ?_)
        · replace hyp := (if_pos q4).symm.trans hyp
          refine V_aload_n (pc := 20) C dX11_best_20 rfl ?_
          refine V_getR (pc := 21) C dX11_best_21 lf_X11_53 fk_0_5 ?_
          refine V_getI (pc := 24) C dX11_best_24 lf_X11_262 fk_51_12 ?_
          refine V_if_eq (pc := 27) C dX11_best_27 (tgt := 42) (by decide) (fun q5 => ?_) (fun q5 => ?_)
          · replace hyp := (if_pos q5).symm.trans hyp
            refine V_iconst (pc := 42) C dX11_best_42 (v := -1) (by decide) ?_
            cases hyp
            exact V_iret C dX11_best_43
          · replace hyp := (if_neg q5).symm.trans hyp
            refine V_aload_n (pc := 30) C dX11_best_30 rfl ?_
            refine V_getR (pc := 31) C dX11_best_31 lf_X11_53 fk_0_5 ?_
            refine V_getI (pc := 34) C dX11_best_34 lf_X11_262 fk_51_12 ?_
            refine V_bipush (pc := 37) C dX11_best_37 (v := 8) (by decide) ?_
            refine V_icmp_le (pc := 39) C dX11_best_39 (tgt := 44) (by decide) (fun q6 => ?_) (fun q6 => ?_)
            · replace hyp := (if_pos q6).symm.trans hyp
              refine V_aload_n (pc := 44) C dX11_best_44 rfl ?_
              refine V_getR (pc := 45) C dX11_best_45 lf_X11_69 fk_0_7 ?_
              obtain ⟨h8, eh8, hyp⟩ := bV_n hyp
              refine V_callV (pc := 48) C dX11_best_48 lm_X11_263 mk_X1_weighAll ok_80 rfl (M_X1_weighAll _ eh8) rfl pd_X1_weighAll (by decide) (by decide) (by decide) (As := []) (rest := []) rfl (Nat.le_of_ble_eq_true rfl) ?_
              refine V_iload_n (pc := 51) C dX11_best_51 rfl ?_
              refine V_if_ne (pc := 52) C dX11_best_52 (tgt := 67) (by decide) (fun q9 => ?_) (fun q9 => ?_)
              · replace hyp := (if_neg q9).symm.trans hyp
                refine V_aload_n (pc := 67) C dX11_best_67 rfl ?_
                refine V_getR (pc := 68) C dX11_best_68 lf_X11_69 fk_0_7 ?_
                refine V_getR (pc := 71) C dX11_best_71 lf_X11_269 fk_80_1 ?_
                refine V_iload_n (pc := 74) C dX11_best_74 rfl ?_
                obtain ⟨g10, hyp⟩ := gd_n hyp
                refine V_iald (pc := 75) C dX11_best_75 ak_82 g10 ?_
                cases hyp
                exact V_iret C dX11_best_76
              · replace hyp := (if_pos q9).symm.trans hyp
                refine V_aload_n (pc := 55) C dX11_best_55 rfl ?_
                refine V_getR (pc := 56) C dX11_best_56 lf_X11_69 fk_0_7 ?_
                refine V_getR (pc := 59) C dX11_best_59 lf_X11_266 fk_80_0 ?_
                refine V_iload_n (pc := 62) C dX11_best_62 rfl ?_
                obtain ⟨g11, hyp⟩ := gd_n hyp
                refine V_iald (pc := 63) C dX11_best_63 ak_81 g11 ?_
                refine V_goto (pc := 64) C dX11_best_64 (tgt := 76) (by decide) ?_
                cases hyp
                exact V_iret C dX11_best_76
            · replace hyp := (if_neg q6).symm.trans hyp
              refine V_iconst (pc := 42) C dX11_best_42 (v := -1) (by decide) ?_
              cases hyp
              exact V_iret C dX11_best_43
        · replace hyp := (if_neg q4).symm.trans hyp
          refine V_iconst (pc := 18) C dX11_best_18 (v := -1) (by decide) ?_
          cases hyp
          exact V_iret C dX11_best_19
