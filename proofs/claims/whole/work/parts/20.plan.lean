theorem dX6_setCars_0 : decode cX6_setCars 0 = .ok (.aload_n 0, 1) := by decide +kernel
theorem dX6_setCars_1 : decode cX6_setCars 1 = .ok (.iload_n 1, 1) := by decide +kernel
theorem dX6_setCars_2 : decode cX6_setCars 2 = .ok (.putfield 61, 3) := by decide +kernel
theorem dX6_setCars_5 : decode cX6_setCars 5 = .ok (.aload_n 0, 1) := by decide +kernel
theorem dX6_setCars_6 : decode cX6_setCars 6 = .ok (.iload_n 2, 1) := by decide +kernel
theorem dX6_setCars_7 : decode cX6_setCars 7 = .ok (.putfield 64, 3) := by decide +kernel
theorem dX6_setCars_10 : decode cX6_setCars 10 = .ok (.aload_n 0, 1) := by decide +kernel
theorem dX6_setCars_11 : decode cX6_setCars 11 = .ok (.iload_n 3, 1) := by decide +kernel
theorem dX6_setCars_12 : decode cX6_setCars 12 = .ok (.putfield 67, 3) := by decide +kernel
theorem dX6_setCars_15 : decode cX6_setCars 15 = .ok (.aload_n 0, 1) := by decide +kernel
theorem dX6_setCars_16 : decode cX6_setCars 16 = .ok (.iload 4, 2) := by decide +kernel
theorem dX6_setCars_18 : decode cX6_setCars 18 = .ok (.putfield 70, 3) := by decide +kernel
theorem dX6_setCars_21 : decode cX6_setCars 21 = .ok (.aload_n 0, 1) := by decide +kernel
theorem dX6_setCars_22 : decode cX6_setCars 22 = .ok (.dup, 1) := by decide +kernel
theorem dX6_setCars_23 : decode cX6_setCars 23 = .ok (.getfield 58, 3) := by decide +kernel
theorem dX6_setCars_26 : decode cX6_setCars 26 = .ok (.iconst 1, 1) := by decide +kernel
theorem dX6_setCars_27 : decode cX6_setCars 27 = .ok (.iadd, 1) := by decide +kernel
theorem dX6_setCars_28 : decode cX6_setCars 28 = .ok (.putfield 58, 3) := by decide +kernel
theorem dX6_setCars_31 : decode cX6_setCars 31 = .ok (.return_, 1) := by decide +kernel
def F_X6_setCars (a1 : Int32) (a2 : Int32) (a3 : Int32) (a4 : Int32) (h : PH) : Option PH :=
  hb (hs h 51 8 a1) fun h1 =>
  hb (hs h1 51 9 a2) fun h2 =>
  hb (hs h2 51 10 a3) fun h3 =>
  hb (hs h3 51 11 a4) fun h4 =>
  hb (hs h4 51 15 ((h4.1 51 15) + (1 : Int32))) fun h5 =>
  some h5
set_option maxRecDepth 20000 in
set_option maxHeartbeats 4000000 in
theorem M_X6_setCars (E : EV) {a1 : Int32} {a2 : Int32} {a3 : Int32} {a4 : Int32} {h h2 : PH} (hyp : F_X6_setCars a1 a2 a3 a4 h = some h2) : MV E 103 yX6_setCars cX6_setCars 5 none 0 0 [.ref 51, .int a1, .int a2, .int a3, .int a4] h h2 := by
  refine MV.of 0 (by decide) rfl (fun X e1 C => ?_)
  subst e1
  replace C : CX X 103 cX6_setCars 5 RX6 none 0 0 := C
  show V X _ h 0 [some (.ref 51), some (.int a1), some (.int a2), some (.int a3), some (.int a4)] []
  unfold F_X6_setCars at hyp
  refine V_aload_n (pc := 0) C dX6_setCars_0 rfl ?_
  refine V_iload_n (pc := 1) C dX6_setCars_1 rfl ?_
  obtain ⟨h1, eh1, hyp⟩ := hb_n hyp
  refine V_putI (pc := 2) C dX6_setCars_2 lf_X6_61 fk_51_8 rfl rfl eh1 ?_
  refine V_aload_n (pc := 5) C dX6_setCars_5 rfl ?_
  refine V_iload_n (pc := 6) C dX6_setCars_6 rfl ?_
  obtain ⟨h2, eh2, hyp⟩ := hb_n hyp
  refine V_putI (pc := 7) C dX6_setCars_7 lf_X6_64 fk_51_9 rfl rfl eh2 ?_
  refine V_aload_n (pc := 10) C dX6_setCars_10 rfl ?_
  refine V_iload_n (pc := 11) C dX6_setCars_11 rfl ?_
  obtain ⟨h3, eh3, hyp⟩ := hb_n hyp
  refine V_putI (pc := 12) C dX6_setCars_12 lf_X6_67 fk_51_10 rfl rfl eh3 ?_
  refine V_aload_n (pc := 15) C dX6_setCars_15 rfl ?_
  refine V_iload (pc := 16) C dX6_setCars_16 rfl ?_
  obtain ⟨h4, eh4, hyp⟩ := hb_n hyp
  refine V_putI (pc := 18) C dX6_setCars_18 lf_X6_70 fk_51_11 rfl rfl eh4 ?_
  refine V_aload_n (pc := 21) C dX6_setCars_21 rfl ?_
  refine V_dup (pc := 22) C dX6_setCars_22 rfl ?_
  refine V_getI (pc := 23) C dX6_setCars_23 lf_X6_58 fk_51_15 ?_
  refine V_iconst (pc := 26) C dX6_setCars_26 (v := 1) (by decide) ?_
  refine V_iadd (pc := 27) C dX6_setCars_27 ?_
  obtain ⟨h5, eh5, hyp⟩ := hb_n hyp
  refine V_putI (pc := 28) C dX6_setCars_28 lf_X6_58 fk_51_15 rfl rfl eh5 ?_
  cases hyp
  exact V_vret C dX6_setCars_31
theorem dX6_dismiss_0 : decode cX6_dismiss 0 = .ok (.aload_n 0, 1) := by decide +kernel
theorem dX6_dismiss_1 : decode cX6_dismiss 1 = .ok (.iconst 0, 1) := by decide +kernel
theorem dX6_dismiss_2 : decode cX6_dismiss 2 = .ok (.putfield 73, 3) := by decide +kernel
theorem dX6_dismiss_5 : decode cX6_dismiss 5 = .ok (.aload_n 0, 1) := by decide +kernel
theorem dX6_dismiss_6 : decode cX6_dismiss 6 = .ok (.iconst 0, 1) := by decide +kernel
theorem dX6_dismiss_7 : decode cX6_dismiss 7 = .ok (.putfield 76, 3) := by decide +kernel
theorem dX6_dismiss_10 : decode cX6_dismiss 10 = .ok (.aload_n 0, 1) := by decide +kernel
theorem dX6_dismiss_11 : decode cX6_dismiss 11 = .ok (.iconst (-1), 1) := by decide +kernel
theorem dX6_dismiss_12 : decode cX6_dismiss 12 = .ok (.putfield 79, 3) := by decide +kernel
theorem dX6_dismiss_15 : decode cX6_dismiss 15 = .ok (.aload_n 0, 1) := by decide +kernel
theorem dX6_dismiss_16 : decode cX6_dismiss 16 = .ok (.dup, 1) := by decide +kernel
theorem dX6_dismiss_17 : decode cX6_dismiss 17 = .ok (.getfield 58, 3) := by decide +kernel
theorem dX6_dismiss_20 : decode cX6_dismiss 20 = .ok (.iconst 1, 1) := by decide +kernel
theorem dX6_dismiss_21 : decode cX6_dismiss 21 = .ok (.iadd, 1) := by decide +kernel
theorem dX6_dismiss_22 : decode cX6_dismiss 22 = .ok (.putfield 58, 3) := by decide +kernel
theorem dX6_dismiss_25 : decode cX6_dismiss 25 = .ok (.return_, 1) := by decide +kernel
def F_X6_dismiss (h : PH) : Option PH :=
  hb (hs h 51 12 (0 : Int32)) fun h1 =>
  hb (hs h1 51 13 (0 : Int32)) fun h2 =>
  hb (hs h2 51 14 (-1 : Int32)) fun h3 =>
  hb (hs h3 51 15 ((h3.1 51 15) + (1 : Int32))) fun h4 =>
  some h4
set_option maxRecDepth 20000 in
set_option maxHeartbeats 4000000 in
theorem M_X6_dismiss (E : EV) {h h2 : PH} (hyp : F_X6_dismiss  h = some h2) : MV E 103 yX6_dismiss cX6_dismiss 1 none 0 0 [.ref 51] h h2 := by
  refine MV.of 0 (by decide) rfl (fun X e1 C => ?_)
  subst e1
  replace C : CX X 103 cX6_dismiss 1 RX6 none 0 0 := C
  show V X _ h 0 [some (.ref 51)] []
  unfold F_X6_dismiss at hyp
  refine V_aload_n (pc := 0) C dX6_dismiss_0 rfl ?_
  refine V_iconst (pc := 1) C dX6_dismiss_1 (v := 0) (by decide) ?_
  obtain ⟨h1, eh1, hyp⟩ := hb_n hyp
  refine V_putI (pc := 2) C dX6_dismiss_2 lf_X6_73 fk_51_12 rfl rfl eh1 ?_
  refine V_aload_n (pc := 5) C dX6_dismiss_5 rfl ?_
  refine V_iconst (pc := 6) C dX6_dismiss_6 (v := 0) (by decide) ?_
  obtain ⟨h2, eh2, hyp⟩ := hb_n hyp
  refine V_putI (pc := 7) C dX6_dismiss_7 lf_X6_76 fk_51_13 rfl rfl eh2 ?_
  refine V_aload_n (pc := 10) C dX6_dismiss_10 rfl ?_
  refine V_iconst (pc := 11) C dX6_dismiss_11 (v := -1) (by decide) ?_
  obtain ⟨h3, eh3, hyp⟩ := hb_n hyp
  refine V_putI (pc := 12) C dX6_dismiss_12 lf_X6_79 fk_51_14 rfl rfl eh3 ?_
  refine V_aload_n (pc := 15) C dX6_dismiss_15 rfl ?_
  refine V_dup (pc := 16) C dX6_dismiss_16 rfl ?_
  refine V_getI (pc := 17) C dX6_dismiss_17 lf_X6_58 fk_51_15 ?_
  refine V_iconst (pc := 20) C dX6_dismiss_20 (v := 1) (by decide) ?_
  refine V_iadd (pc := 21) C dX6_dismiss_21 ?_
  obtain ⟨h4, eh4, hyp⟩ := hb_n hyp
  refine V_putI (pc := 22) C dX6_dismiss_22 lf_X6_58 fk_51_15 rfl rfl eh4 ?_
  cases hyp
  exact V_vret C dX6_dismiss_25
theorem dX6_startHouse_0 : decode cX6_startHouse 0 = .ok (.aload_n 0, 1) := by decide +kernel
theorem dX6_startHouse_1 : decode cX6_startHouse 1 = .ok (.iload_n 1, 1) := by decide +kernel
theorem dX6_startHouse_2 : decode cX6_startHouse 2 = .ok (.putfield 37, 3) := by decide +kernel
theorem dX6_startHouse_5 : decode cX6_startHouse 5 = .ok (.aload_n 0, 1) := by decide +kernel
theorem dX6_startHouse_6 : decode cX6_startHouse 6 = .ok (.getfield 12, 3) := by decide +kernel
theorem dX6_startHouse_9 : decode cX6_startHouse 9 = .ok (.invokevirtual 41, 3) := by decide +kernel
theorem dX6_startHouse_12 : decode cX6_startHouse 12 = .ok (.aload_n 0, 1) := by decide +kernel
theorem dX6_startHouse_13 : decode cX6_startHouse 13 = .ok (.iconst 1, 1) := by decide +kernel
theorem dX6_startHouse_14 : decode cX6_startHouse 14 = .ok (.iconst 4, 1) := by decide +kernel
theorem dX6_startHouse_15 : decode cX6_startHouse 15 = .ok (.iconst 1, 1) := by decide +kernel
theorem dX6_startHouse_16 : decode cX6_startHouse 16 = .ok (.iconst 0, 1) := by decide +kernel
theorem dX6_startHouse_17 : decode cX6_startHouse 17 = .ok (.invokevirtual 44, 3) := by decide +kernel
theorem dX6_startHouse_20 : decode cX6_startHouse 20 = .ok (.aload_n 0, 1) := by decide +kernel
theorem dX6_startHouse_21 : decode cX6_startHouse 21 = .ok (.invokevirtual 48, 3) := by decide +kernel
theorem dX6_startHouse_24 : decode cX6_startHouse 24 = .ok (.return_, 1) := by decide +kernel
def F_X6_startHouse (N : Nat) (a1 : Int32) (h : PH) : Option PH :=
  hb (hs h 51 7 a1) fun h1 =>
  bV (F_X2_clear N 58 h1) fun h3 =>
  bV (F_X6_setCars (1 : Int32) (4 : Int32) (1 : Int32) (0 : Int32) h3) fun h5 =>
  bV (F_X6_dismiss  h5) fun h7 =>
  some h7
set_option maxRecDepth 20000 in
set_option maxHeartbeats 4000000 in
theorem M_X6_startHouse (E : EV) {N : Nat} {a1 : Int32} {h h2 : PH} (hyp : F_X6_startHouse N a1 h = some h2) : MV E 103 yX6_startHouse cX6_startHouse 2 none 2 43 [.ref 51, .int a1] h h2 := by
  refine MV.of 0 (by decide) rfl (fun X e1 C => ?_)
  subst e1
  replace C : CX X 103 cX6_startHouse 2 RX6 none 2 43 := C
  show V X _ h 0 [some (.ref 51), some (.int a1)] []
  unfold F_X6_startHouse at hyp
  refine V_aload_n (pc := 0) C dX6_startHouse_0 rfl ?_
  refine V_iload_n (pc := 1) C dX6_startHouse_1 rfl ?_
  obtain ⟨h1, eh1, hyp⟩ := hb_n hyp
  refine V_putI (pc := 2) C dX6_startHouse_2 lf_X6_37 fk_51_7 rfl rfl eh1 ?_
  refine V_aload_n (pc := 5) C dX6_startHouse_5 rfl ?_
  refine V_getR (pc := 6) C dX6_startHouse_6 lf_X6_12 fk_51_0 ?_
  obtain ⟨h3, eh3, hyp⟩ := bV_n hyp
  refine V_callV (pc := 9) C dX6_startHouse_9 lm_X6_41 mk_X2_clear ok_58 rfl (M_X2_clear _ isC_58 eh3) rfl pd_X2_clear (by decide) (by decide) (by decide) (As := []) (rest := []) rfl (Nat.le_of_ble_eq_true rfl) ?_
  refine V_aload_n (pc := 12) C dX6_startHouse_12 rfl ?_
  refine V_iconst (pc := 13) C dX6_startHouse_13 (v := 1) (by decide) ?_
  refine V_iconst (pc := 14) C dX6_startHouse_14 (v := 4) (by decide) ?_
  refine V_iconst (pc := 15) C dX6_startHouse_15 (v := 1) (by decide) ?_
  refine V_iconst (pc := 16) C dX6_startHouse_16 (v := 0) (by decide) ?_
  obtain ⟨h5, eh5, hyp⟩ := bV_n hyp
  refine V_callV (pc := 17) C dX6_startHouse_17 lm_X6_44 mk_X6_setCars ok_51 rfl (M_X6_setCars _ eh5) rfl pd_X6_setCars (by decide) (by decide) (by decide) (As := [.int (1 : Int32), .int (4 : Int32), .int (1 : Int32), .int (0 : Int32)]) (rest := []) rfl (Nat.le_of_ble_eq_true rfl) ?_
  refine V_aload_n (pc := 20) C dX6_startHouse_20 rfl ?_
  obtain ⟨h7, eh7, hyp⟩ := bV_n hyp
  refine V_callV (pc := 21) C dX6_startHouse_21 lm_X6_48 mk_X6_dismiss ok_51 rfl (M_X6_dismiss _ eh7) rfl pd_X6_dismiss (by decide) (by decide) (by decide) (As := []) (rest := []) rfl (Nat.le_of_ble_eq_true rfl) ?_
  cases hyp
  exact V_vret C dX6_startHouse_24
theorem dX6_setRule_0 : decode cX6_setRule 0 = .ok (.aload_n 0, 1) := by decide +kernel
theorem dX6_setRule_1 : decode cX6_setRule 1 = .ok (.getfield 12, 3) := by decide +kernel
theorem dX6_setRule_4 : decode cX6_setRule 4 = .ok (.aload_n 1, 1) := by decide +kernel
theorem dX6_setRule_5 : decode cX6_setRule 5 = .ok (.invokevirtual 51, 3) := by decide +kernel
theorem dX6_setRule_8 : decode cX6_setRule 8 = .ok (.aload_n 0, 1) := by decide +kernel
theorem dX6_setRule_9 : decode cX6_setRule 9 = .ok (.dup, 1) := by decide +kernel
theorem dX6_setRule_10 : decode cX6_setRule 10 = .ok (.getfield 55, 3) := by decide +kernel
theorem dX6_setRule_13 : decode cX6_setRule 13 = .ok (.iconst 1, 1) := by decide +kernel
theorem dX6_setRule_14 : decode cX6_setRule 14 = .ok (.iadd, 1) := by decide +kernel
theorem dX6_setRule_15 : decode cX6_setRule 15 = .ok (.putfield 55, 3) := by decide +kernel
theorem dX6_setRule_18 : decode cX6_setRule 18 = .ok (.return_, 1) := by decide +kernel
def F_X6_setRule (h : PH) : Option PH :=
  bV (F_X2_copy 58 h) fun h2 =>
  hb (hs h2 51 16 ((h2.1 51 16) + (1 : Int32))) fun h3 =>
  some h3
set_option maxRecDepth 20000 in
set_option maxHeartbeats 4000000 in
theorem M_X6_setRule (E : EV) {h h2 : PH} (hyp : F_X6_setRule  h = some h2) : MV E 103 yX6_setRule cX6_setRule 2 none 2 81 [.ref 51, .ref 4] h h2 := by
  refine MV.of 0 (by decide) rfl (fun X e1 C => ?_)
  subst e1
  replace C : CX X 103 cX6_setRule 2 RX6 none 2 81 := C
  show V X _ h 0 [some (.ref 51), some (.ref 4)] []
  unfold F_X6_setRule at hyp
  refine V_aload_n (pc := 0) C dX6_setRule_0 rfl ?_
  refine V_getR (pc := 1) C dX6_setRule_1 lf_X6_12 fk_51_0 ?_
  refine V_aload_n (pc := 4) C dX6_setRule_4 rfl ?_
  obtain ⟨h2, eh2, hyp⟩ := bV_n hyp
  refine V_callV (pc := 5) C dX6_setRule_5 lm_X6_51 mk_X2_copy ok_58 rfl (M_X2_copy _ isC_58 eh2) rfl pd_X2_copy (by decide) (by decide) (by decide) (As := [.ref 4]) (rest := []) rfl (Nat.le_of_ble_eq_true rfl) ?_
  refine V_aload_n (pc := 8) C dX6_setRule_8 rfl ?_
  refine V_dup (pc := 9) C dX6_setRule_9 rfl ?_
  refine V_getI (pc := 10) C dX6_setRule_10 lf_X6_55 fk_51_16 ?_
  refine V_iconst (pc := 13) C dX6_setRule_13 (v := 1) (by decide) ?_
  refine V_iadd (pc := 14) C dX6_setRule_14 ?_
  obtain ⟨h3, eh3, hyp⟩ := hb_n hyp
  refine V_putI (pc := 15) C dX6_setRule_15 lf_X6_55 fk_51_16 rfl rfl eh3 ?_
  cases hyp
  exact V_vret C dX6_setRule_18
theorem dX6_tellings_0 : decode cX6_tellings 0 = .ok (.aload_n 0, 1) := by decide +kernel
theorem dX6_tellings_1 : decode cX6_tellings 1 = .ok (.getfield 58, 3) := by decide +kernel
theorem dX6_tellings_4 : decode cX6_tellings 4 = .ok (.aload_n 0, 1) := by decide +kernel
theorem dX6_tellings_5 : decode cX6_tellings 5 = .ok (.getfield 55, 3) := by decide +kernel
theorem dX6_tellings_8 : decode cX6_tellings 8 = .ok (.iadd, 1) := by decide +kernel
theorem dX6_tellings_9 : decode cX6_tellings 9 = .ok (.ireturn, 1) := by decide +kernel
def F_X6_tellings (h : PH) : Option (Int32 × PH) :=
  some ((h.1 51 15) + (h.1 51 16), h)
set_option maxRecDepth 20000 in
set_option maxHeartbeats 4000000 in
theorem M_X6_tellings (E : EV) {r : Int32} {h h2 : PH} (hyp : F_X6_tellings  h = some (r, h2)) : MI E 103 yX6_tellings cX6_tellings 1 (some .int) 0 0 [.ref 51] h r h2 := by
  refine MI.of 0 (by decide) rfl (fun X e1 C => ?_)
  subst e1
  replace C : CX X 103 cX6_tellings 1 RX6 (some .int) 0 0 := C
  show V X _ h 0 [some (.ref 51)] []
  unfold F_X6_tellings at hyp
  refine V_aload_n (pc := 0) C dX6_tellings_0 rfl ?_
  refine V_getI (pc := 1) C dX6_tellings_1 lf_X6_58 fk_51_15 ?_
  refine V_aload_n (pc := 4) C dX6_tellings_4 rfl ?_
  refine V_getI (pc := 5) C dX6_tellings_5 lf_X6_55 fk_51_16 ?_
  refine V_iadd (pc := 8) C dX6_tellings_8 ?_
  cases hyp
  exact V_iret C dX6_tellings_9
theorem dX6_addPerson_0 : decode cX6_addPerson 0 = .ok (.aload_n 0, 1) := by decide +kernel
theorem dX6_addPerson_1 : decode cX6_addPerson 1 = .ok (.getfield 73, 3) := by decide +kernel
theorem dX6_addPerson_4 : decode cX6_addPerson 4 = .ok (.bipush 24, 2) := by decide +kernel
theorem dX6_addPerson_6 : decode cX6_addPerson 6 = .ok (.if_icmp .lt 5, 3) := by decide +kernel
theorem dX6_addPerson_9 : decode cX6_addPerson 9 = .ok (.iconst (-1), 1) := by decide +kernel
theorem dX6_addPerson_10 : decode cX6_addPerson 10 = .ok (.ireturn, 1) := by decide +kernel
theorem dX6_addPerson_11 : decode cX6_addPerson 11 = .ok (.aload_n 0, 1) := by decide +kernel
theorem dX6_addPerson_12 : decode cX6_addPerson 12 = .ok (.getfield 18, 3) := by decide +kernel
theorem dX6_addPerson_15 : decode cX6_addPerson 15 = .ok (.aload_n 0, 1) := by decide +kernel
theorem dX6_addPerson_16 : decode cX6_addPerson 16 = .ok (.getfield 73, 3) := by decide +kernel
theorem dX6_addPerson_19 : decode cX6_addPerson 19 = .ok (.iload_n 1, 1) := by decide +kernel
theorem dX6_addPerson_20 : decode cX6_addPerson 20 = .ok (.iastore, 1) := by decide +kernel
theorem dX6_addPerson_21 : decode cX6_addPerson 21 = .ok (.aload_n 0, 1) := by decide +kernel
theorem dX6_addPerson_22 : decode cX6_addPerson 22 = .ok (.getfield 22, 3) := by decide +kernel
theorem dX6_addPerson_25 : decode cX6_addPerson 25 = .ok (.aload_n 0, 1) := by decide +kernel
theorem dX6_addPerson_26 : decode cX6_addPerson 26 = .ok (.getfield 73, 3) := by decide +kernel
theorem dX6_addPerson_29 : decode cX6_addPerson 29 = .ok (.iload_n 2, 1) := by decide +kernel
theorem dX6_addPerson_30 : decode cX6_addPerson 30 = .ok (.iastore, 1) := by decide +kernel
theorem dX6_addPerson_31 : decode cX6_addPerson 31 = .ok (.aload_n 0, 1) := by decide +kernel
theorem dX6_addPerson_32 : decode cX6_addPerson 32 = .ok (.getfield 25, 3) := by decide +kernel
theorem dX6_addPerson_35 : decode cX6_addPerson 35 = .ok (.aload_n 0, 1) := by decide +kernel
theorem dX6_addPerson_36 : decode cX6_addPerson 36 = .ok (.getfield 73, 3) := by decide +kernel
theorem dX6_addPerson_39 : decode cX6_addPerson 39 = .ok (.iload_n 3, 1) := by decide +kernel
theorem dX6_addPerson_40 : decode cX6_addPerson 40 = .ok (.iastore, 1) := by decide +kernel
theorem dX6_addPerson_41 : decode cX6_addPerson 41 = .ok (.aload_n 0, 1) := by decide +kernel
theorem dX6_addPerson_42 : decode cX6_addPerson 42 = .ok (.dup, 1) := by decide +kernel
theorem dX6_addPerson_43 : decode cX6_addPerson 43 = .ok (.getfield 73, 3) := by decide +kernel
theorem dX6_addPerson_46 : decode cX6_addPerson 46 = .ok (.iconst 1, 1) := by decide +kernel
theorem dX6_addPerson_47 : decode cX6_addPerson 47 = .ok (.iadd, 1) := by decide +kernel
theorem dX6_addPerson_48 : decode cX6_addPerson 48 = .ok (.putfield 73, 3) := by decide +kernel
theorem dX6_addPerson_51 : decode cX6_addPerson 51 = .ok (.aload_n 0, 1) := by decide +kernel
theorem dX6_addPerson_52 : decode cX6_addPerson 52 = .ok (.dup, 1) := by decide +kernel
theorem dX6_addPerson_53 : decode cX6_addPerson 53 = .ok (.getfield 58, 3) := by decide +kernel
theorem dX6_addPerson_56 : decode cX6_addPerson 56 = .ok (.iconst 1, 1) := by decide +kernel
theorem dX6_addPerson_57 : decode cX6_addPerson 57 = .ok (.iadd, 1) := by decide +kernel
theorem dX6_addPerson_58 : decode cX6_addPerson 58 = .ok (.putfield 58, 3) := by decide +kernel
theorem dX6_addPerson_61 : decode cX6_addPerson 61 = .ok (.aload_n 0, 1) := by decide +kernel
theorem dX6_addPerson_62 : decode cX6_addPerson 62 = .ok (.getfield 73, 3) := by decide +kernel
theorem dX6_addPerson_65 : decode cX6_addPerson 65 = .ok (.iconst 1, 1) := by decide +kernel
theorem dX6_addPerson_66 : decode cX6_addPerson 66 = .ok (.isub, 1) := by decide +kernel
theorem dX6_addPerson_67 : decode cX6_addPerson 67 = .ok (.ireturn, 1) := by decide +kernel
def F_X6_addPerson (a1 : Int32) (a2 : Int32) (a3 : Int32) (h : PH) : Option (Int32 × PH) :=
  if (h.1 51 12) < (24 : Int32) then
    if inb (h.1 51 12) 24 = true then
    hb (hs h 52 (h.1 51 12).toNatClampNeg a1) fun h3 =>
    if inb (h3.1 51 12) 24 = true then
    hb (hs h3 53 (h3.1 51 12).toNatClampNeg a2) fun h5 =>
    if inb (h5.1 51 12) 24 = true then
    hb (hs h5 54 (h5.1 51 12).toNatClampNeg a3) fun h7 =>
    hb (hs h7 51 12 ((h7.1 51 12) + (1 : Int32))) fun h8 =>
    hb (hs h8 51 15 ((h8.1 51 15) + (1 : Int32))) fun h9 =>
    some ((h9.1 51 12) - (1 : Int32), h9)
    else none
    else none
    else none
  else
    some ((-1 : Int32), h)
set_option maxRecDepth 20000 in
set_option maxHeartbeats 4000000 in
theorem M_X6_addPerson (E : EV) {a1 : Int32} {a2 : Int32} {a3 : Int32} {r : Int32} {h h2 : PH} (hyp : F_X6_addPerson a1 a2 a3 h = some (r, h2)) : MI E 103 yX6_addPerson cX6_addPerson 4 (some .int) 0 0 [.ref 51, .int a1, .int a2, .int a3] h r h2 := by
  refine MI.of 0 (by decide) rfl (fun X e1 C => ?_)
  subst e1
  replace C : CX X 103 cX6_addPerson 4 RX6 (some .int) 0 0 := C
  show V X _ h 0 [some (.ref 51), some (.int a1), some (.int a2), some (.int a3)] []
  unfold F_X6_addPerson at hyp
  refine V_aload_n (pc := 0) C dX6_addPerson_0 rfl ?_
  refine V_getI (pc := 1) C dX6_addPerson_1 lf_X6_73 fk_51_12 ?_
  refine V_bipush (pc := 4) C dX6_addPerson_4 (v := 24) (by decide) ?_
  refine V_icmp_lt (pc := 6) C dX6_addPerson_6 (tgt := 11) (by decide) (fun q1 => ?_) (fun q1 => ?_)
  · replace hyp := (if_pos q1).symm.trans hyp
    refine V_aload_n (pc := 11) C dX6_addPerson_11 rfl ?_
    refine V_getR (pc := 12) C dX6_addPerson_12 lf_X6_18 fk_51_1 ?_
    refine V_aload_n (pc := 15) C dX6_addPerson_15 rfl ?_
    refine V_getI (pc := 16) C dX6_addPerson_16 lf_X6_73 fk_51_12 ?_
    refine V_iload_n (pc := 19) C dX6_addPerson_19 rfl ?_
    obtain ⟨g2, hyp⟩ := gd_n hyp
    obtain ⟨h3, eh3, hyp⟩ := hb_n hyp
    refine V_iast (pc := 20) C dX6_addPerson_20 ak_52 g2 eh3 ?_
    refine V_aload_n (pc := 21) C dX6_addPerson_21 rfl ?_
    refine V_getR (pc := 22) C dX6_addPerson_22 lf_X6_22 fk_51_2 ?_
    refine V_aload_n (pc := 25) C dX6_addPerson_25 rfl ?_
    refine V_getI (pc := 26) C dX6_addPerson_26 lf_X6_73 fk_51_12 ?_
    refine V_iload_n (pc := 29) C dX6_addPerson_29 rfl ?_
    obtain ⟨g4, hyp⟩ := gd_n hyp
    obtain ⟨h5, eh5, hyp⟩ := hb_n hyp
    refine V_iast (pc := 30) C dX6_addPerson_30 ak_53 g4 eh5 ?_
    refine V_aload_n (pc := 31) C dX6_addPerson_31 rfl ?_
    refine V_getR (pc := 32) C dX6_addPerson_32 lf_X6_25 fk_51_3 ?_
    refine V_aload_n (pc := 35) C dX6_addPerson_35 rfl ?_
    refine V_getI (pc := 36) C dX6_addPerson_36 lf_X6_73 fk_51_12 ?_
    refine V_iload_n (pc := 39) C dX6_addPerson_39 rfl ?_
    obtain ⟨g6, hyp⟩ := gd_n hyp
    obtain ⟨h7, eh7, hyp⟩ := hb_n hyp
    refine V_iast (pc := 40) C dX6_addPerson_40 ak_54 g6 eh7 ?_
    refine V_aload_n (pc := 41) C dX6_addPerson_41 rfl ?_
    refine V_dup (pc := 42) C dX6_addPerson_42 rfl ?_
    refine V_getI (pc := 43) C dX6_addPerson_43 lf_X6_73 fk_51_12 ?_
    refine V_iconst (pc := 46) C dX6_addPerson_46 (v := 1) (by decide) ?_
    refine V_iadd (pc := 47) C dX6_addPerson_47 ?_
    obtain ⟨h8, eh8, hyp⟩ := hb_n hyp
    refine V_putI (pc := 48) C dX6_addPerson_48 lf_X6_73 fk_51_12 rfl rfl eh8 ?_
    refine V_aload_n (pc := 51) C dX6_addPerson_51 rfl ?_
    refine V_dup (pc := 52) C dX6_addPerson_52 rfl ?_
    refine V_getI (pc := 53) C dX6_addPerson_53 lf_X6_58 fk_51_15 ?_
    refine V_iconst (pc := 56) C dX6_addPerson_56 (v := 1) (by decide) ?_
    refine V_iadd (pc := 57) C dX6_addPerson_57 ?_
    obtain ⟨h9, eh9, hyp⟩ := hb_n hyp
    refine V_putI (pc := 58) C dX6_addPerson_58 lf_X6_58 fk_51_15 rfl rfl eh9 ?_
    refine V_aload_n (pc := 61) C dX6_addPerson_61 rfl ?_
    refine V_getI (pc := 62) C dX6_addPerson_62 lf_X6_73 fk_51_12 ?_
    refine V_iconst (pc := 65) C dX6_addPerson_65 (v := 1) (by decide) ?_
    refine V_isub (pc := 66) C dX6_addPerson_66 ?_
    cases hyp
    exact V_iret C dX6_addPerson_67
  · replace hyp := (if_neg q1).symm.trans hyp
    refine V_iconst (pc := 9) C dX6_addPerson_9 (v := -1) (by decide) ?_
    cases hyp
    exact V_iret C dX6_addPerson_10
theorem dX6_addHold_0 : decode cX6_addHold 0 = .ok (.aload_n 0, 1) := by decide +kernel
theorem dX6_addHold_1 : decode cX6_addHold 1 = .ok (.getfield 76, 3) := by decide +kernel
theorem dX6_addHold_4 : decode cX6_addHold 4 = .ok (.bipush 8, 2) := by decide +kernel
theorem dX6_addHold_6 : decode cX6_addHold 6 = .ok (.if_icmp .lt 5, 3) := by decide +kernel
theorem dX6_addHold_9 : decode cX6_addHold 9 = .ok (.iconst 0, 1) := by decide +kernel
theorem dX6_addHold_10 : decode cX6_addHold 10 = .ok (.ireturn, 1) := by decide +kernel
theorem dX6_addHold_11 : decode cX6_addHold 11 = .ok (.aload_n 0, 1) := by decide +kernel
theorem dX6_addHold_12 : decode cX6_addHold 12 = .ok (.getfield 28, 3) := by decide +kernel
theorem dX6_addHold_15 : decode cX6_addHold 15 = .ok (.aload_n 0, 1) := by decide +kernel
theorem dX6_addHold_16 : decode cX6_addHold 16 = .ok (.getfield 76, 3) := by decide +kernel
theorem dX6_addHold_19 : decode cX6_addHold 19 = .ok (.iload_n 1, 1) := by decide +kernel
theorem dX6_addHold_20 : decode cX6_addHold 20 = .ok (.iastore, 1) := by decide +kernel
theorem dX6_addHold_21 : decode cX6_addHold 21 = .ok (.aload_n 0, 1) := by decide +kernel
theorem dX6_addHold_22 : decode cX6_addHold 22 = .ok (.getfield 31, 3) := by decide +kernel
theorem dX6_addHold_25 : decode cX6_addHold 25 = .ok (.aload_n 0, 1) := by decide +kernel
theorem dX6_addHold_26 : decode cX6_addHold 26 = .ok (.getfield 76, 3) := by decide +kernel
theorem dX6_addHold_29 : decode cX6_addHold 29 = .ok (.iload_n 2, 1) := by decide +kernel
theorem dX6_addHold_30 : decode cX6_addHold 30 = .ok (.iastore, 1) := by decide +kernel
theorem dX6_addHold_31 : decode cX6_addHold 31 = .ok (.aload_n 0, 1) := by decide +kernel
theorem dX6_addHold_32 : decode cX6_addHold 32 = .ok (.getfield 34, 3) := by decide +kernel
theorem dX6_addHold_35 : decode cX6_addHold 35 = .ok (.aload_n 0, 1) := by decide +kernel
theorem dX6_addHold_36 : decode cX6_addHold 36 = .ok (.getfield 76, 3) := by decide +kernel
theorem dX6_addHold_39 : decode cX6_addHold 39 = .ok (.iload_n 3, 1) := by decide +kernel
theorem dX6_addHold_40 : decode cX6_addHold 40 = .ok (.iastore, 1) := by decide +kernel
theorem dX6_addHold_41 : decode cX6_addHold 41 = .ok (.aload_n 0, 1) := by decide +kernel
theorem dX6_addHold_42 : decode cX6_addHold 42 = .ok (.dup, 1) := by decide +kernel
theorem dX6_addHold_43 : decode cX6_addHold 43 = .ok (.getfield 76, 3) := by decide +kernel
theorem dX6_addHold_46 : decode cX6_addHold 46 = .ok (.iconst 1, 1) := by decide +kernel
theorem dX6_addHold_47 : decode cX6_addHold 47 = .ok (.iadd, 1) := by decide +kernel
theorem dX6_addHold_48 : decode cX6_addHold 48 = .ok (.putfield 76, 3) := by decide +kernel
theorem dX6_addHold_51 : decode cX6_addHold 51 = .ok (.aload_n 0, 1) := by decide +kernel
theorem dX6_addHold_52 : decode cX6_addHold 52 = .ok (.dup, 1) := by decide +kernel
theorem dX6_addHold_53 : decode cX6_addHold 53 = .ok (.getfield 58, 3) := by decide +kernel
theorem dX6_addHold_56 : decode cX6_addHold 56 = .ok (.iconst 1, 1) := by decide +kernel
theorem dX6_addHold_57 : decode cX6_addHold 57 = .ok (.iadd, 1) := by decide +kernel
theorem dX6_addHold_58 : decode cX6_addHold 58 = .ok (.putfield 58, 3) := by decide +kernel
theorem dX6_addHold_61 : decode cX6_addHold 61 = .ok (.iconst 1, 1) := by decide +kernel
theorem dX6_addHold_62 : decode cX6_addHold 62 = .ok (.ireturn, 1) := by decide +kernel
def F_X6_addHold (a1 : Int32) (a2 : Int32) (a3 : Int32) (h : PH) : Option (Int32 × PH) :=
  if (h.1 51 13) < (8 : Int32) then
    if inb (h.1 51 13) 8 = true then
    hb (hs h 55 (h.1 51 13).toNatClampNeg a1) fun h3 =>
    if inb (h3.1 51 13) 8 = true then
    hb (hs h3 56 (h3.1 51 13).toNatClampNeg a2) fun h5 =>
    if inb (h5.1 51 13) 8 = true then
    hb (hs h5 57 (h5.1 51 13).toNatClampNeg a3) fun h7 =>
    hb (hs h7 51 13 ((h7.1 51 13) + (1 : Int32))) fun h8 =>
    hb (hs h8 51 15 ((h8.1 51 15) + (1 : Int32))) fun h9 =>
    some ((1 : Int32), h9)
    else none
    else none
    else none
  else
    some ((0 : Int32), h)
set_option maxRecDepth 20000 in
set_option maxHeartbeats 4000000 in
theorem M_X6_addHold (E : EV) {a1 : Int32} {a2 : Int32} {a3 : Int32} {r : Int32} {h h2 : PH} (hyp : F_X6_addHold a1 a2 a3 h = some (r, h2)) : MI E 103 yX6_addHold cX6_addHold 4 (some .boolean) 0 0 [.ref 51, .int a1, .int a2, .int a3] h r h2 := by
  refine MI.of 0 (by decide) rfl (fun X e1 C => ?_)
  subst e1
  replace C : CX X 103 cX6_addHold 4 RX6 (some .boolean) 0 0 := C
  show V X _ h 0 [some (.ref 51), some (.int a1), some (.int a2), some (.int a3)] []
  unfold F_X6_addHold at hyp
  refine V_aload_n (pc := 0) C dX6_addHold_0 rfl ?_
  refine V_getI (pc := 1) C dX6_addHold_1 lf_X6_76 fk_51_13 ?_
  refine V_bipush (pc := 4) C dX6_addHold_4 (v := 8) (by decide) ?_
  refine V_icmp_lt (pc := 6) C dX6_addHold_6 (tgt := 11) (by decide) (fun q1 => ?_) (fun q1 => ?_)
  · replace hyp := (if_pos q1).symm.trans hyp
    refine V_aload_n (pc := 11) C dX6_addHold_11 rfl ?_
    refine V_getR (pc := 12) C dX6_addHold_12 lf_X6_28 fk_51_4 ?_
    refine V_aload_n (pc := 15) C dX6_addHold_15 rfl ?_
    refine V_getI (pc := 16) C dX6_addHold_16 lf_X6_76 fk_51_13 ?_
    refine V_iload_n (pc := 19) C dX6_addHold_19 rfl ?_
    obtain ⟨g2, hyp⟩ := gd_n hyp
    obtain ⟨h3, eh3, hyp⟩ := hb_n hyp
    refine V_iast (pc := 20) C dX6_addHold_20 ak_55 g2 eh3 ?_
    refine V_aload_n (pc := 21) C dX6_addHold_21 rfl ?_
    refine V_getR (pc := 22) C dX6_addHold_22 lf_X6_31 fk_51_5 ?_
    refine V_aload_n (pc := 25) C dX6_addHold_25 rfl ?_
    refine V_getI (pc := 26) C dX6_addHold_26 lf_X6_76 fk_51_13 ?_
    refine V_iload_n (pc := 29) C dX6_addHold_29 rfl ?_
    obtain ⟨g4, hyp⟩ := gd_n hyp
    obtain ⟨h5, eh5, hyp⟩ := hb_n hyp
    refine V_iast (pc := 30) C dX6_addHold_30 ak_56 g4 eh5 ?_
    refine V_aload_n (pc := 31) C dX6_addHold_31 rfl ?_
    refine V_getR (pc := 32) C dX6_addHold_32 lf_X6_34 fk_51_6 ?_
    refine V_aload_n (pc := 35) C dX6_addHold_35 rfl ?_
    refine V_getI (pc := 36) C dX6_addHold_36 lf_X6_76 fk_51_13 ?_
    refine V_iload_n (pc := 39) C dX6_addHold_39 rfl ?_
    obtain ⟨g6, hyp⟩ := gd_n hyp
    obtain ⟨h7, eh7, hyp⟩ := hb_n hyp
    refine V_iast (pc := 40) C dX6_addHold_40 ak_57 g6 eh7 ?_
    refine V_aload_n (pc := 41) C dX6_addHold_41 rfl ?_
    refine V_dup (pc := 42) C dX6_addHold_42 rfl ?_
    refine V_getI (pc := 43) C dX6_addHold_43 lf_X6_76 fk_51_13 ?_
    refine V_iconst (pc := 46) C dX6_addHold_46 (v := 1) (by decide) ?_
    refine V_iadd (pc := 47) C dX6_addHold_47 ?_
    obtain ⟨h8, eh8, hyp⟩ := hb_n hyp
    refine V_putI (pc := 48) C dX6_addHold_48 lf_X6_76 fk_51_13 rfl rfl eh8 ?_
    refine V_aload_n (pc := 51) C dX6_addHold_51 rfl ?_
    refine V_dup (pc := 52) C dX6_addHold_52 rfl ?_
    refine V_getI (pc := 53) C dX6_addHold_53 lf_X6_58 fk_51_15 ?_
    refine V_iconst (pc := 56) C dX6_addHold_56 (v := 1) (by decide) ?_
    refine V_iadd (pc := 57) C dX6_addHold_57 ?_
    obtain ⟨h9, eh9, hyp⟩ := hb_n hyp
    refine V_putI (pc := 58) C dX6_addHold_58 lf_X6_58 fk_51_15 rfl rfl eh9 ?_
    refine V_iconst (pc := 61) C dX6_addHold_61 (v := 1) (by decide) ?_
    cases hyp
    exact V_zret C dX6_addHold_62 rfl
  · replace hyp := (if_neg q1).symm.trans hyp
    refine V_iconst (pc := 9) C dX6_addHold_9 (v := 0) (by decide) ?_
    cases hyp
    exact V_zret C dX6_addHold_10 rfl
theorem dX6_setFire_0 : decode cX6_setFire 0 = .ok (.aload_n 0, 1) := by decide +kernel
theorem dX6_setFire_1 : decode cX6_setFire 1 = .ok (.iload_n 1, 1) := by decide +kernel
theorem dX6_setFire_2 : decode cX6_setFire 2 = .ok (.putfield 79, 3) := by decide +kernel
theorem dX6_setFire_5 : decode cX6_setFire 5 = .ok (.aload_n 0, 1) := by decide +kernel
theorem dX6_setFire_6 : decode cX6_setFire 6 = .ok (.dup, 1) := by decide +kernel
theorem dX6_setFire_7 : decode cX6_setFire 7 = .ok (.getfield 58, 3) := by decide +kernel
theorem dX6_setFire_10 : decode cX6_setFire 10 = .ok (.iconst 1, 1) := by decide +kernel
theorem dX6_setFire_11 : decode cX6_setFire 11 = .ok (.iadd, 1) := by decide +kernel
theorem dX6_setFire_12 : decode cX6_setFire 12 = .ok (.putfield 58, 3) := by decide +kernel
theorem dX6_setFire_15 : decode cX6_setFire 15 = .ok (.return_, 1) := by decide +kernel
def F_X6_setFire (a1 : Int32) (h : PH) : Option PH :=
  hb (hs h 51 14 a1) fun h1 =>
  hb (hs h1 51 15 ((h1.1 51 15) + (1 : Int32))) fun h2 =>
  some h2
set_option maxRecDepth 20000 in
set_option maxHeartbeats 4000000 in
theorem M_X6_setFire (E : EV) {a1 : Int32} {h h2 : PH} (hyp : F_X6_setFire a1 h = some h2) : MV E 103 yX6_setFire cX6_setFire 2 none 0 0 [.ref 51, .int a1] h h2 := by
  refine MV.of 0 (by decide) rfl (fun X e1 C => ?_)
  subst e1
  replace C : CX X 103 cX6_setFire 2 RX6 none 0 0 := C
  show V X _ h 0 [some (.ref 51), some (.int a1)] []
  unfold F_X6_setFire at hyp
  refine V_aload_n (pc := 0) C dX6_setFire_0 rfl ?_
  refine V_iload_n (pc := 1) C dX6_setFire_1 rfl ?_
  obtain ⟨h1, eh1, hyp⟩ := hb_n hyp
  refine V_putI (pc := 2) C dX6_setFire_2 lf_X6_79 fk_51_14 rfl rfl eh1 ?_
  refine V_aload_n (pc := 5) C dX6_setFire_5 rfl ?_
  refine V_dup (pc := 6) C dX6_setFire_6 rfl ?_
  refine V_getI (pc := 7) C dX6_setFire_7 lf_X6_58 fk_51_15 ?_
  refine V_iconst (pc := 10) C dX6_setFire_10 (v := 1) (by decide) ?_
  refine V_iadd (pc := 11) C dX6_setFire_11 ?_
  obtain ⟨h2, eh2, hyp⟩ := hb_n hyp
  refine V_putI (pc := 12) C dX6_setFire_12 lf_X6_58 fk_51_15 rfl rfl eh2 ?_
  cases hyp
  exact V_vret C dX6_setFire_15
theorem dX6_burns_0 : decode cX6_burns 0 = .ok (.aload_n 0, 1) := by decide +kernel
theorem dX6_burns_1 : decode cX6_burns 1 = .ok (.getfield 79, 3) := by decide +kernel
theorem dX6_burns_4 : decode cX6_burns 4 = .ok (.iconst (-1), 1) := by decide +kernel
theorem dX6_burns_5 : decode cX6_burns 5 = .ok (.if_icmp .eq 15, 3) := by decide +kernel
theorem dX6_burns_8 : decode cX6_burns 8 = .ok (.iload_n 1, 1) := by decide +kernel
theorem dX6_burns_9 : decode cX6_burns 9 = .ok (.aload_n 0, 1) := by decide +kernel
theorem dX6_burns_10 : decode cX6_burns 10 = .ok (.getfield 79, 3) := by decide +kernel
theorem dX6_burns_13 : decode cX6_burns 13 = .ok (.if_icmp .lt 7, 3) := by decide +kernel
theorem dX6_burns_16 : decode cX6_burns 16 = .ok (.iconst 1, 1) := by decide +kernel
theorem dX6_burns_17 : decode cX6_burns 17 = .ok (.goto 4, 3) := by decide +kernel
theorem dX6_burns_20 : decode cX6_burns 20 = .ok (.iconst 0, 1) := by decide +kernel
theorem dX6_burns_21 : decode cX6_burns 21 = .ok (.ireturn, 1) := by decide +kernel
def F_X6_burns_b20 (h : PH) : Option (Int32 × PH) :=
  some ((0 : Int32), h)
set_option maxRecDepth 20000 in
set_option maxHeartbeats 4000000 in
theorem T_X6_burns_b20 {X : CT} (C : CX X 103 cX6_burns 2 RX6 (some .boolean) 0 0) {r0 : Int32} {h0 : PH} : ∀ (h : PH), F_X6_burns_b20  h = some (r0, h0) → V X (QI X r0 h0) h 20 [none, none] [] := by
  intro  h hyp
  unfold F_X6_burns_b20 at hyp
  refine V_iconst (pc := 20) C dX6_burns_20 (v := 0) (by decide) ?_
  cases hyp
  exact V_zret C dX6_burns_21 rfl
def F_X6_burns (a1 : Int32) (h : PH) : Option (Int32 × PH) :=
  if (h.1 51 14) = (-1 : Int32) then
    F_X6_burns_b20  h
  else
    if a1 < (h.1 51 14) then
      F_X6_burns_b20  h
    else
      some ((1 : Int32), h)
set_option maxRecDepth 20000 in
set_option maxHeartbeats 4000000 in
theorem M_X6_burns (E : EV) {a1 : Int32} {r : Int32} {h h2 : PH} (hyp : F_X6_burns a1 h = some (r, h2)) : MI E 103 yX6_burns cX6_burns 2 (some .boolean) 0 0 [.ref 51, .int a1] h r h2 := by
  refine MI.of 0 (by decide) rfl (fun X e1 C => ?_)
  subst e1
  replace C : CX X 103 cX6_burns 2 RX6 (some .boolean) 0 0 := C
  show V X _ h 0 [some (.ref 51), some (.int a1)] []
  unfold F_X6_burns at hyp
  refine V_aload_n (pc := 0) C dX6_burns_0 rfl ?_
  refine V_getI (pc := 1) C dX6_burns_1 lf_X6_79 fk_51_14 ?_
  refine V_iconst (pc := 4) C dX6_burns_4 (v := -1) (by decide) ?_
  refine V_icmp_eq (pc := 5) C dX6_burns_5 (tgt := 20) (by decide) (fun q1 => ?_) (fun q1 => ?_)
  · replace hyp := (if_pos q1).symm.trans hyp
    refine V_weak (lv' := [none, none]) (lvle_n (lvle_n lvle_0)) ?_
    exact (T_X6_burns_b20 C) h hyp
  · replace hyp := (if_neg q1).symm.trans hyp
    refine V_iload_n (pc := 8) C dX6_burns_8 rfl ?_
    refine V_aload_n (pc := 9) C dX6_burns_9 rfl ?_
    refine V_getI (pc := 10) C dX6_burns_10 lf_X6_79 fk_51_14 ?_
    refine V_icmp_lt (pc := 13) C dX6_burns_13 (tgt := 20) (by decide) (fun q2 => ?_) (fun q2 => ?_)
    · replace hyp := (if_pos q2).symm.trans hyp
      refine V_weak (lv' := [none, none]) (lvle_n (lvle_n lvle_0)) ?_
      exact (T_X6_burns_b20 C) h hyp
    · replace hyp := (if_neg q2).symm.trans hyp
      refine V_iconst (pc := 16) C dX6_burns_16 (v := 1) (by decide) ?_
      refine V_goto (pc := 17) C dX6_burns_17 (tgt := 21) (by decide) ?_
      cases hyp
      exact V_zret C dX6_burns_21 rfl
theorem dX6_nextComing_0 : decode cX6_nextComing 0 = .ok (.iconst (-1), 1) := by decide +kernel
theorem dX6_nextComing_1 : decode cX6_nextComing 1 = .ok (.istore_n 2, 1) := by decide +kernel
theorem dX6_nextComing_2 : decode cX6_nextComing 2 = .ok (.iconst 0, 1) := by decide +kernel
theorem dX6_nextComing_3 : decode cX6_nextComing 3 = .ok (.istore_n 3, 1) := by decide +kernel
theorem dX6_nextComing_4 : decode cX6_nextComing 4 = .ok (.iload_n 3, 1) := by decide +kernel
theorem dX6_nextComing_5 : decode cX6_nextComing 5 = .ok (.aload_n 0, 1) := by decide +kernel
theorem dX6_nextComing_6 : decode cX6_nextComing 6 = .ok (.getfield 73, 3) := by decide +kernel
theorem dX6_nextComing_9 : decode cX6_nextComing 9 = .ok (.if_icmp .ge 41, 3) := by decide +kernel
theorem dX6_nextComing_12 : decode cX6_nextComing 12 = .ok (.aload_n 0, 1) := by decide +kernel
theorem dX6_nextComing_13 : decode cX6_nextComing 13 = .ok (.getfield 18, 3) := by decide +kernel
theorem dX6_nextComing_16 : decode cX6_nextComing 16 = .ok (.iload_n 3, 1) := by decide +kernel
theorem dX6_nextComing_17 : decode cX6_nextComing 17 = .ok (.iaload, 1) := by decide +kernel
theorem dX6_nextComing_18 : decode cX6_nextComing 18 = .ok (.iload_n 1, 1) := by decide +kernel
theorem dX6_nextComing_19 : decode cX6_nextComing 19 = .ok (.if_icmp .le 25, 3) := by decide +kernel
theorem dX6_nextComing_22 : decode cX6_nextComing 22 = .ok (.iload_n 2, 1) := by decide +kernel
theorem dX6_nextComing_23 : decode cX6_nextComing 23 = .ok (.iconst (-1), 1) := by decide +kernel
theorem dX6_nextComing_24 : decode cX6_nextComing 24 = .ok (.if_icmp .eq 13, 3) := by decide +kernel
theorem dX6_nextComing_27 : decode cX6_nextComing 27 = .ok (.aload_n 0, 1) := by decide +kernel
theorem dX6_nextComing_28 : decode cX6_nextComing 28 = .ok (.getfield 18, 3) := by decide +kernel
theorem dX6_nextComing_31 : decode cX6_nextComing 31 = .ok (.iload_n 3, 1) := by decide +kernel
theorem dX6_nextComing_32 : decode cX6_nextComing 32 = .ok (.iaload, 1) := by decide +kernel
theorem dX6_nextComing_33 : decode cX6_nextComing 33 = .ok (.iload_n 2, 1) := by decide +kernel
theorem dX6_nextComing_34 : decode cX6_nextComing 34 = .ok (.if_icmp .ge 10, 3) := by decide +kernel
theorem dX6_nextComing_37 : decode cX6_nextComing 37 = .ok (.aload_n 0, 1) := by decide +kernel
theorem dX6_nextComing_38 : decode cX6_nextComing 38 = .ok (.getfield 18, 3) := by decide +kernel
theorem dX6_nextComing_41 : decode cX6_nextComing 41 = .ok (.iload_n 3, 1) := by decide +kernel
theorem dX6_nextComing_42 : decode cX6_nextComing 42 = .ok (.iaload, 1) := by decide +kernel
theorem dX6_nextComing_43 : decode cX6_nextComing 43 = .ok (.istore_n 2, 1) := by decide +kernel
theorem dX6_nextComing_44 : decode cX6_nextComing 44 = .ok (.iinc 3 1, 3) := by decide +kernel
theorem dX6_nextComing_47 : decode cX6_nextComing 47 = .ok (.goto (-43), 3) := by decide +kernel
theorem dX6_nextComing_50 : decode cX6_nextComing 50 = .ok (.iload_n 2, 1) := by decide +kernel
theorem dX6_nextComing_51 : decode cX6_nextComing 51 = .ok (.ireturn, 1) := by decide +kernel
def F_X6_nextComing_b44 (N : Nat) (rc4 : Int32 → Int32 → Int32 → PH → Option (Int32 × PH)) (x1 : Int32) (x2 : Int32) (x3 : Int32) (h : PH) : Option (Int32 × PH) :=
  ib (x3 + (1 : Int32)) fun v1 =>
  rc4 x1 x2 v1 h
set_option maxRecDepth 20000 in
set_option maxHeartbeats 4000000 in
theorem T_X6_nextComing_b44 {X : CT} (C : CX X 103 cX6_nextComing 4 RX6 (some .int) 0 0) {r0 : Int32} {h0 : PH} {N : Nat} {rc4 : Int32 → Int32 → Int32 → PH → Option (Int32 × PH)} (hr4 : ∀ (x1 : Int32) (x2 : Int32) (x3 : Int32) (h : PH), rc4 x1 x2 x3 h = some (r0, h0) → V X (QI X r0 h0) h 4 [some (.ref 51), some (.int x1), some (.int x2), some (.int x3)] []) : ∀ (x1 : Int32) (x2 : Int32) (x3 : Int32) (h : PH), F_X6_nextComing_b44 N rc4 x1 x2 x3 h = some (r0, h0) → V X (QI X r0 h0) h 44 [some (.ref 51), some (.int x1), some (.int x2), some (.int x3)] [] := by
  intro x1 x2 x3 h hyp
  unfold F_X6_nextComing_b44 at hyp
  obtain ⟨v1, ev1, hyp⟩ := ib_n hyp
  refine V_iinc (pc := 44) C dX6_nextComing_44 (v := v1) rfl (by rw [ev1]; rfl) (by decide) rfl ?_
  refine V_goto (pc := 47) C dX6_nextComing_47 (tgt := 4) (by decide) ?_
  refine V_weak (lv' := [some (.ref 51), some (.int x1), some (.int x2), some (.int v1)]) (lvle_s (lvle_s (lvle_s (lvle_s lvle_0)))) ?_
  exact hr4 x1 x2 v1 h hyp
def F_X6_nextComing_b37 (N : Nat) (rc4 : Int32 → Int32 → Int32 → PH → Option (Int32 × PH)) (x1 : Int32) (x3 : Int32) (h : PH) : Option (Int32 × PH) :=
  if inb x3 24 = true then
  ib (h.1 52 x3.toNatClampNeg) fun v2 =>
  F_X6_nextComing_b44 N rc4 x1 v2 x3 h
  else none
set_option maxRecDepth 20000 in
set_option maxHeartbeats 4000000 in
theorem T_X6_nextComing_b37 {X : CT} (C : CX X 103 cX6_nextComing 4 RX6 (some .int) 0 0) {r0 : Int32} {h0 : PH} {N : Nat} {rc4 : Int32 → Int32 → Int32 → PH → Option (Int32 × PH)} (hr4 : ∀ (x1 : Int32) (x2 : Int32) (x3 : Int32) (h : PH), rc4 x1 x2 x3 h = some (r0, h0) → V X (QI X r0 h0) h 4 [some (.ref 51), some (.int x1), some (.int x2), some (.int x3)] []) : ∀ (x1 : Int32) (x3 : Int32) (h : PH), F_X6_nextComing_b37 N rc4 x1 x3 h = some (r0, h0) → V X (QI X r0 h0) h 37 [some (.ref 51), some (.int x1), none, some (.int x3)] [] := by
  intro x1 x3 h hyp
  unfold F_X6_nextComing_b37 at hyp
  refine V_aload_n (pc := 37) C dX6_nextComing_37 rfl ?_
  refine V_getR (pc := 38) C dX6_nextComing_38 lf_X6_18 fk_51_1 ?_
  refine V_iload_n (pc := 41) C dX6_nextComing_41 rfl ?_
  obtain ⟨g1, hyp⟩ := gd_n hyp
  refine V_iald (pc := 42) C dX6_nextComing_42 ak_52 g1 ?_
  obtain ⟨v2, ev2, hyp⟩ := ib_n hyp
  refine V_topI ev2 ?_
  refine V_istore_n (pc := 43) C dX6_nextComing_43 (by decide) rfl ?_
  refine V_weak (lv' := [some (.ref 51), some (.int x1), some (.int v2), some (.int x3)]) (lvle_s (lvle_s (lvle_s (lvle_s lvle_0)))) ?_
  exact (T_X6_nextComing_b44 C hr4) x1 v2 x3 h hyp
def F_X6_nextComing_b4 (N : Nat) : Nat → Int32 → Int32 → Int32 → PH → Option (Int32 × PH)
  | 0, _, _, _, _ => none
  | n + 1, x1, x2, x3, h =>
    if (h.1 51 12) ≤ x3 then
      some (x2, h)
    else
      if inb x3 24 = true then
      if (h.1 52 x3.toNatClampNeg) ≤ x1 then
        F_X6_nextComing_b44 N (F_X6_nextComing_b4 N n) x1 x2 x3 h
      else
        if x2 = (-1 : Int32) then
          F_X6_nextComing_b37 N (F_X6_nextComing_b4 N n) x1 x3 h
        else
          if inb x3 24 = true then
          if x2 ≤ (h.1 52 x3.toNatClampNeg) then
            F_X6_nextComing_b44 N (F_X6_nextComing_b4 N n) x1 x2 x3 h
          else
            F_X6_nextComing_b37 N (F_X6_nextComing_b4 N n) x1 x3 h
          else none
      else none
set_option maxRecDepth 20000 in
set_option maxHeartbeats 4000000 in
theorem T_X6_nextComing_b4 {X : CT} (C : CX X 103 cX6_nextComing 4 RX6 (some .int) 0 0) {r0 : Int32} {h0 : PH} {N : Nat} : ∀ (n : Nat) (x1 : Int32) (x2 : Int32) (x3 : Int32) (h : PH), F_X6_nextComing_b4 N n x1 x2 x3 h = some (r0, h0) → V X (QI X r0 h0) h 4 [some (.ref 51), some (.int x1), some (.int x2), some (.int x3)] [] := by
  intro n
  induction n with
  | zero =>
    intro x1 x2 x3 h hyp
    cases hyp
  | succ n ih =>
    intro x1 x2 x3 h hyp
    unfold F_X6_nextComing_b4 at hyp
    refine V_iload_n (pc := 4) C dX6_nextComing_4 rfl ?_
    refine V_aload_n (pc := 5) C dX6_nextComing_5 rfl ?_
    refine V_getI (pc := 6) C dX6_nextComing_6 lf_X6_73 fk_51_12 ?_
    refine V_icmp_ge (pc := 9) C dX6_nextComing_9 (tgt := 50) (by decide) (fun q1 => ?_) (fun q1 => ?_)
    · replace hyp := (if_pos q1).symm.trans hyp
      refine V_iload_n (pc := 50) C dX6_nextComing_50 rfl ?_
      cases hyp
      exact V_iret C dX6_nextComing_51
    · replace hyp := (if_neg q1).symm.trans hyp
      refine V_aload_n (pc := 12) C dX6_nextComing_12 rfl ?_
      refine V_getR (pc := 13) C dX6_nextComing_13 lf_X6_18 fk_51_1 ?_
      refine V_iload_n (pc := 16) C dX6_nextComing_16 rfl ?_
      obtain ⟨g2, hyp⟩ := gd_n hyp
      refine V_iald (pc := 17) C dX6_nextComing_17 ak_52 g2 ?_
      refine V_iload_n (pc := 18) C dX6_nextComing_18 rfl ?_
      refine V_icmp_le (pc := 19) C dX6_nextComing_19 (tgt := 44) (by decide) (fun q3 => ?_) (fun q3 => ?_)
      · replace hyp := (if_pos q3).symm.trans hyp
        refine V_weak (lv' := [some (.ref 51), some (.int x1), some (.int x2), some (.int x3)]) (lvle_s (lvle_s (lvle_s (lvle_s lvle_0)))) ?_
        exact (T_X6_nextComing_b44 C ih) x1 x2 x3 h hyp
      · replace hyp := (if_neg q3).symm.trans hyp
        refine V_iload_n (pc := 22) C dX6_nextComing_22 rfl ?_
        refine V_iconst (pc := 23) C dX6_nextComing_23 (v := -1) (by decide) ?_
        refine V_icmp_eq (pc := 24) C dX6_nextComing_24 (tgt := 37) (by decide) (fun q4 => ?_) (fun q4 => ?_)
        · replace hyp := (if_pos q4).symm.trans hyp
          refine V_weak (lv' := [some (.ref 51), some (.int x1), none, some (.int x3)]) (lvle_s (lvle_s (lvle_n (lvle_s lvle_0)))) ?_
          exact (T_X6_nextComing_b37 C ih) x1 x3 h hyp
        · replace hyp := (if_neg q4).symm.trans hyp
          refine V_aload_n (pc := 27) C dX6_nextComing_27 rfl ?_
          refine V_getR (pc := 28) C dX6_nextComing_28 lf_X6_18 fk_51_1 ?_
          refine V_iload_n (pc := 31) C dX6_nextComing_31 rfl ?_
          obtain ⟨g5, hyp⟩ := gd_n hyp
          refine V_iald (pc := 32) C dX6_nextComing_32 ak_52 g5 ?_
          refine V_iload_n (pc := 33) C dX6_nextComing_33 rfl ?_
          refine V_icmp_ge (pc := 34) C dX6_nextComing_34 (tgt := 44) (by decide) (fun q6 => ?_) (fun q6 => ?_)
          · replace hyp := (if_pos q6).symm.trans hyp
            refine V_weak (lv' := [some (.ref 51), some (.int x1), some (.int x2), some (.int x3)]) (lvle_s (lvle_s (lvle_s (lvle_s lvle_0)))) ?_
            exact (T_X6_nextComing_b44 C ih) x1 x2 x3 h hyp
          · replace hyp := (if_neg q6).symm.trans hyp
            refine V_weak (lv' := [some (.ref 51), some (.int x1), none, some (.int x3)]) (lvle_s (lvle_s (lvle_n (lvle_s lvle_0)))) ?_
            exact (T_X6_nextComing_b37 C ih) x1 x3 h hyp
def F_X6_nextComing (N : Nat) (a1 : Int32) (h : PH) : Option (Int32 × PH) :=
  F_X6_nextComing_b4 N N a1 (-1 : Int32) (0 : Int32) h
set_option maxRecDepth 20000 in
set_option maxHeartbeats 4000000 in
theorem M_X6_nextComing (E : EV) {N : Nat} {a1 : Int32} {r : Int32} {h h2 : PH} (hyp : F_X6_nextComing N a1 h = some (r, h2)) : MI E 103 yX6_nextComing cX6_nextComing 4 (some .int) 0 0 [.ref 51, .int a1] h r h2 := by
  refine MI.of 2 (by decide) rfl (fun X e1 C => ?_)
  subst e1
  replace C : CX X 103 cX6_nextComing 4 RX6 (some .int) 0 0 := C
  show V X _ h 0 [some (.ref 51), some (.int a1), none, none] []
  unfold F_X6_nextComing at hyp
  refine V_iconst (pc := 0) C dX6_nextComing_0 (v := -1) (by decide) ?_
  refine V_istore_n (pc := 1) C dX6_nextComing_1 (by decide) rfl ?_
  refine V_iconst (pc := 2) C dX6_nextComing_2 (v := 0) (by decide) ?_
  refine V_istore_n (pc := 3) C dX6_nextComing_3 (by decide) rfl ?_
  refine V_weak (lv' := [some (.ref 51), some (.int a1), some (.int (-1 : Int32)), some (.int (0 : Int32))]) (lvle_s (lvle_s (lvle_s (lvle_s lvle_0)))) ?_
  exact (T_X6_nextComing_b4 C) N a1 (-1 : Int32) (0 : Int32) h hyp
