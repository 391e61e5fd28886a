theorem dX5_advance_0 : decode cX5_advance 0 = .ok (.aload_n 0, 1) := by decide +kernel
theorem dX5_advance_1 : decode cX5_advance 1 = .ok (.getfield 35, 3) := by decide +kernel
theorem dX5_advance_4 : decode cX5_advance 4 = .ok (.ifCond .eq 62, 3) := by decide +kernel
theorem dX5_advance_7 : decode cX5_advance 7 = .ok (.aload_n 0, 1) := by decide +kernel
theorem dX5_advance_8 : decode cX5_advance 8 = .ok (.getfield 68, 3) := by decide +kernel
theorem dX5_advance_11 : decode cX5_advance 11 = .ok (.iconst 1, 1) := by decide +kernel
theorem dX5_advance_12 : decode cX5_advance 12 = .ok (.iadd, 1) := by decide +kernel
theorem dX5_advance_13 : decode cX5_advance 13 = .ok (.aload_n 0, 1) := by decide +kernel
theorem dX5_advance_14 : decode cX5_advance 14 = .ok (.getfield 23, 3) := by decide +kernel
theorem dX5_advance_17 : decode cX5_advance 17 = .ok (.getfield 74, 3) := by decide +kernel
theorem dX5_advance_20 : decode cX5_advance 20 = .ok (.arraylength, 1) := by decide +kernel
theorem dX5_advance_21 : decode cX5_advance 21 = .ok (.if_icmp .ge 45, 3) := by decide +kernel
theorem dX5_advance_24 : decode cX5_advance 24 = .ok (.aload_n 0, 1) := by decide +kernel
theorem dX5_advance_25 : decode cX5_advance 25 = .ok (.dup, 1) := by decide +kernel
theorem dX5_advance_26 : decode cX5_advance 26 = .ok (.getfield 68, 3) := by decide +kernel
theorem dX5_advance_29 : decode cX5_advance 29 = .ok (.iconst 1, 1) := by decide +kernel
theorem dX5_advance_30 : decode cX5_advance 30 = .ok (.iadd, 1) := by decide +kernel
theorem dX5_advance_31 : decode cX5_advance 31 = .ok (.putfield 68, 3) := by decide +kernel
theorem dX5_advance_34 : decode cX5_advance 34 = .ok (.aload_n 0, 1) := by decide +kernel
theorem dX5_advance_35 : decode cX5_advance 35 = .ok (.aload_n 0, 1) := by decide +kernel
theorem dX5_advance_36 : decode cX5_advance 36 = .ok (.getfield 23, 3) := by decide +kernel
theorem dX5_advance_39 : decode cX5_advance 39 = .ok (.getfield 74, 3) := by decide +kernel
theorem dX5_advance_42 : decode cX5_advance 42 = .ok (.aload_n 0, 1) := by decide +kernel
theorem dX5_advance_43 : decode cX5_advance 43 = .ok (.getfield 68, 3) := by decide +kernel
theorem dX5_advance_46 : decode cX5_advance 46 = .ok (.iaload, 1) := by decide +kernel
theorem dX5_advance_47 : decode cX5_advance 47 = .ok (.putfield 35, 3) := by decide +kernel
theorem dX5_advance_50 : decode cX5_advance 50 = .ok (.aload_n 0, 1) := by decide +kernel
theorem dX5_advance_51 : decode cX5_advance 51 = .ok (.aload_n 0, 1) := by decide +kernel
theorem dX5_advance_52 : decode cX5_advance 52 = .ok (.getfield 23, 3) := by decide +kernel
theorem dX5_advance_55 : decode cX5_advance 55 = .ok (.getfield 77, 3) := by decide +kernel
theorem dX5_advance_58 : decode cX5_advance 58 = .ok (.aload_n 0, 1) := by decide +kernel
theorem dX5_advance_59 : decode cX5_advance 59 = .ok (.getfield 68, 3) := by decide +kernel
theorem dX5_advance_62 : decode cX5_advance 62 = .ok (.iaload, 1) := by decide +kernel
theorem dX5_advance_63 : decode cX5_advance 63 = .ok (.putfield 80, 3) := by decide +kernel
theorem dX5_advance_66 : decode cX5_advance 66 = .ok (.return_, 1) := by decide +kernel
def F_X5_advance (h : PH) : Option PH :=
  if (h.1 3 3) = 0 then
    some h
  else
    if (1001 : Int32) ≤ ((h.1 3 2) + (1 : Int32)) then
      some h
    else
      hb (hs h 3 2 ((h.1 3 2) + (1 : Int32))) fun h3 =>
      if inb (h3.1 3 2) 1001 = true then
      hb (hs h3 3 3 (h3.1 11 (h3.1 3 2).toNatClampNeg)) fun h5 =>
      if inb (h5.1 3 2) 1001 = true then
      hb (hs h5 3 4 (h5.1 12 (h5.1 3 2).toNatClampNeg)) fun h7 =>
      some h7
      else none
      else none
set_option maxRecDepth 20000 in
set_option maxHeartbeats 4000000 in
theorem M_X5_advance (E : EV) {h h2 : PH} (hyp : F_X5_advance  h = some h2) : MV E 103 yX5_advance cX5_advance 1 none 0 0 [.ref 3] h h2 := by
  refine MV.of 0 (by decide) rfl (fun X e1 C => ?_)
  subst e1
  replace C : CX X 103 cX5_advance 1 RX5 none 0 0 := C
  show V X _ h 0 [some (.ref 3)] []
  unfold F_X5_advance at hyp
  refine V_aload_n (pc := 0) C dX5_advance_0 rfl ?_
  refine V_getI (pc := 1) C dX5_advance_1 lf_X5_35 fk_3_3 ?_
  refine V_if_eq (pc := 4) C dX5_advance_4 (tgt := 66) (by decide) (fun q1 => ?_) (fun q1 => ?_)
  · replace hyp := (if_pos q1).symm.trans hyp
    cases hyp
    exact V_vret C dX5_advance_66
  · replace hyp := (if_neg q1).symm.trans hyp
    refine V_aload_n (pc := 7) C dX5_advance_7 rfl ?_
    refine V_getI (pc := 8) C dX5_advance_8 lf_X5_68 fk_3_2 ?_
    refine V_iconst (pc := 11) C dX5_advance_11 (v := 1) (by decide) ?_
    refine V_iadd (pc := 12) C dX5_advance_12 ?_
    refine V_aload_n (pc := 13) C dX5_advance_13 rfl ?_
    refine V_getR (pc := 14) C dX5_advance_14 lf_X5_23 fk_3_1 ?_
    refine V_getR (pc := 17) C dX5_advance_17 lf_X5_74 fk_10_0 ?_
    refine V_alen (pc := 20) C dX5_advance_20 ak_11 (by decide) (v := 1001) rfl ?_
    refine V_icmp_ge (pc := 21) C dX5_advance_21 (tgt := 66) (by decide) (fun q2 => ?_) (fun q2 => ?_)
    · replace hyp := (if_pos q2).symm.trans hyp
      cases hyp
      exact V_vret C dX5_advance_66
    · replace hyp := (if_neg q2).symm.trans hyp
      refine V_aload_n (pc := 24) C dX5_advance_24 rfl ?_
      refine V_dup (pc := 25) C dX5_advance_25 rfl ?_
      refine V_getI (pc := 26) C dX5_advance_26 lf_X5_68 fk_3_2 ?_
      refine V_iconst (pc := 29) C dX5_advance_29 (v := 1) (by decide) ?_
      refine V_iadd (pc := 30) C dX5_advance_30 ?_
      obtain ⟨h3, eh3, hyp⟩ := hb_n hyp
      refine V_putI (pc := 31) C dX5_advance_31 lf_X5_68 fk_3_2 rfl rfl eh3 ?_
      refine V_aload_n (pc := 34) C dX5_advance_34 rfl ?_
      refine V_aload_n (pc := 35) C dX5_advance_35 rfl ?_
      refine V_getR (pc := 36) C dX5_advance_36 lf_X5_23 fk_3_1 ?_
      refine V_getR (pc := 39) C dX5_advance_39 lf_X5_74 fk_10_0 ?_
      refine V_aload_n (pc := 42) C dX5_advance_42 rfl ?_
      refine V_getI (pc := 43) C dX5_advance_43 lf_X5_68 fk_3_2 ?_
      obtain ⟨g4, hyp⟩ := gd_n hyp
      refine V_iald (pc := 46) C dX5_advance_46 ak_11 g4 ?_
      obtain ⟨h5, eh5, hyp⟩ := hb_n hyp
      refine V_putI (pc := 47) C dX5_advance_47 lf_X5_35 fk_3_3 rfl rfl eh5 ?_
      refine V_aload_n (pc := 50) C dX5_advance_50 rfl ?_
      refine V_aload_n (pc := 51) C dX5_advance_51 rfl ?_
      refine V_getR (pc := 52) C dX5_advance_52 lf_X5_23 fk_3_1 ?_
      refine V_getR (pc := 55) C dX5_advance_55 lf_X5_77 fk_10_1 ?_
      refine V_aload_n (pc := 58) C dX5_advance_58 rfl ?_
      refine V_getI (pc := 59) C dX5_advance_59 lf_X5_68 fk_3_2 ?_
      obtain ⟨g6, hyp⟩ := gd_n hyp
      refine V_iald (pc := 62) C dX5_advance_62 ak_12 g6 ?_
      obtain ⟨h7, eh7, hyp⟩ := hb_n hyp
      refine V_putI (pc := 63) C dX5_advance_63 lf_X5_80 fk_3_4 rfl rfl eh7 ?_
      cases hyp
      exact V_vret C dX5_advance_66
theorem dX5_start_0 : decode cX5_start 0 = .ok (.aload_n 0, 1) := by decide +kernel
theorem dX5_start_1 : decode cX5_start 1 = .ok (.getfield 23, 3) := by decide +kernel
theorem dX5_start_4 : decode cX5_start 4 = .ok (.invokevirtual 55, 3) := by decide +kernel
theorem dX5_start_7 : decode cX5_start 7 = .ok (.aload_n 0, 1) := by decide +kernel
theorem dX5_start_8 : decode cX5_start 8 = .ok (.getfield 12, 3) := by decide +kernel
theorem dX5_start_11 : decode cX5_start 11 = .ok (.invokevirtual 58, 3) := by decide +kernel
theorem dX5_start_14 : decode cX5_start 14 = .ok (.aload_n 0, 1) := by decide +kernel
theorem dX5_start_15 : decode cX5_start 15 = .ok (.iload_n 1, 1) := by decide +kernel
theorem dX5_start_16 : decode cX5_start 16 = .ok (.putfield 61, 3) := by decide +kernel
theorem dX5_start_19 : decode cX5_start 19 = .ok (.aload_n 0, 1) := by decide +kernel
theorem dX5_start_20 : decode cX5_start 20 = .ok (.iload_n 2, 1) := by decide +kernel
theorem dX5_start_21 : decode cX5_start 21 = .ok (.putfield 65, 3) := by decide +kernel
theorem dX5_start_24 : decode cX5_start 24 = .ok (.aload_n 0, 1) := by decide +kernel
theorem dX5_start_25 : decode cX5_start 25 = .ok (.iconst 0, 1) := by decide +kernel
theorem dX5_start_26 : decode cX5_start 26 = .ok (.putfield 31, 3) := by decide +kernel
theorem dX5_start_29 : decode cX5_start 29 = .ok (.aload_n 0, 1) := by decide +kernel
theorem dX5_start_30 : decode cX5_start 30 = .ok (.iconst (-1), 1) := by decide +kernel
theorem dX5_start_31 : decode cX5_start 31 = .ok (.putfield 68, 3) := by decide +kernel
theorem dX5_start_34 : decode cX5_start 34 = .ok (.aload_n 0, 1) := by decide +kernel
theorem dX5_start_35 : decode cX5_start 35 = .ok (.iconst 1, 1) := by decide +kernel
theorem dX5_start_36 : decode cX5_start 36 = .ok (.putfield 35, 3) := by decide +kernel
theorem dX5_start_39 : decode cX5_start 39 = .ok (.aload_n 0, 1) := by decide +kernel
theorem dX5_start_40 : decode cX5_start 40 = .ok (.invokevirtual 71, 3) := by decide +kernel
theorem dX5_start_43 : decode cX5_start 43 = .ok (.return_, 1) := by decide +kernel
def F_X5_start (N : Nat) (a1 : Int32) (a2 : Int32) (h : PH) : Option PH :=
  bV (F_X9_take N  h) fun h2 =>
  bV (F_X2_clear N 4 h2) fun h4 =>
  if zb a1 = true then
  hb (hs h4 3 7 a1) fun h5 =>
  hb (hs h5 3 6 a2) fun h7 =>
  hb (hs h7 3 5 (0 : Int32)) fun h8 =>
  hb (hs h8 3 2 (-1 : Int32)) fun h9 =>
  hb (hs h9 3 3 (1 : Int32)) fun h10 =>
  bV (F_X5_advance  h10) fun h12 =>
  some h12
  else none
set_option maxRecDepth 20000 in
set_option maxHeartbeats 4000000 in
theorem M_X5_start (E : EV) {N : Nat} {a1 : Int32} {a2 : Int32} {h h2 : PH} (hyp : F_X5_start N a1 a2 h = some h2) : MV E 103 yX5_start cX5_start 3 none 8 180 [.ref 3, .int a1, .int a2] h h2 := by
  refine MV.of 0 (by decide) rfl (fun X e1 C => ?_)
  subst e1
  replace C : CX X 103 cX5_start 3 RX5 none 8 180 := C
  show V X _ h 0 [some (.ref 3), some (.int a1), some (.int a2)] []
  unfold F_X5_start at hyp
  refine V_aload_n (pc := 0) C dX5_start_0 rfl ?_
  refine V_getR (pc := 1) C dX5_start_1 lf_X5_23 fk_3_1 ?_
  obtain ⟨h2, eh2, hyp⟩ := bV_n hyp
  refine V_callV (pc := 4) C dX5_start_4 lm_X5_55 mk_X9_take ok_10 rfl (M_X9_take _ eh2) rfl pd_X9_take (by decide) (by decide) (by decide) (As := []) (rest := []) rfl (Nat.le_of_ble_eq_true rfl) ?_
  refine V_aload_n (pc := 7) C dX5_start_7 rfl ?_
  refine V_getR (pc := 8) C dX5_start_8 lf_X5_12 fk_3_0 ?_
  obtain ⟨h4, eh4, hyp⟩ := bV_n hyp
  refine V_callV (pc := 11) C dX5_start_11 lm_X5_58 mk_X2_clear ok_4 rfl (M_X2_clear _ isC_4 eh4) rfl pd_X2_clear (by decide) (by decide) (by decide) (As := []) (rest := []) rfl (Nat.le_of_ble_eq_true rfl) ?_
  refine V_aload_n (pc := 14) C dX5_start_14 rfl ?_
  refine V_iload_n (pc := 15) C dX5_start_15 rfl ?_
  obtain ⟨g6, hyp⟩ := gd_n hyp
  obtain ⟨h5, eh5, hyp⟩ := hb_n hyp
  refine V_putI (pc := 16) C dX5_start_16 lf_X5_61 fk_3_7 (zb_n g6).1 (zb_n g6).2 eh5 ?_
  refine V_aload_n (pc := 19) C dX5_start_19 rfl ?_
  refine V_iload_n (pc := 20) C dX5_start_20 rfl ?_
  obtain ⟨h7, eh7, hyp⟩ := hb_n hyp
  refine V_putI (pc := 21) C dX5_start_21 lf_X5_65 fk_3_6 rfl rfl eh7 ?_
  refine V_aload_n (pc := 24) C dX5_start_24 rfl ?_
  refine V_iconst (pc := 25) C dX5_start_25 (v := 0) (by decide) ?_
  obtain ⟨h8, eh8, hyp⟩ := hb_n hyp
  refine V_putI (pc := 26) C dX5_start_26 lf_X5_31 fk_3_5 rfl rfl eh8 ?_
  refine V_aload_n (pc := 29) C dX5_start_29 rfl ?_
  refine V_iconst (pc := 30) C dX5_start_30 (v := -1) (by decide) ?_
  obtain ⟨h9, eh9, hyp⟩ := hb_n hyp
  refine V_putI (pc := 31) C dX5_start_31 lf_X5_68 fk_3_2 rfl rfl eh9 ?_
  refine V_aload_n (pc := 34) C dX5_start_34 rfl ?_
  refine V_iconst (pc := 35) C dX5_start_35 (v := 1) (by decide) ?_
  obtain ⟨h10, eh10, hyp⟩ := hb_n hyp
  refine V_putI (pc := 36) C dX5_start_36 lf_X5_35 fk_3_3 rfl rfl eh10 ?_
  refine V_aload_n (pc := 39) C dX5_start_39 rfl ?_
  obtain ⟨h12, eh12, hyp⟩ := bV_n hyp
  refine V_callV (pc := 40) C dX5_start_40 lm_X5_71 mk_X5_advance ok_3 rfl (M_X5_advance _ eh12) rfl pd_X5_advance (by decide) (by decide) (by decide) (As := []) (rest := []) rfl (Nat.le_of_ble_eq_true rfl) ?_
  cases hyp
  exact V_vret C dX5_start_43
theorem dX5_blame_0 : decode cX5_blame 0 = .ok (.aload_n 0, 1) := by decide +kernel
theorem dX5_blame_1 : decode cX5_blame 1 = .ok (.getfield 31, 3) := by decide +kernel
theorem dX5_blame_4 : decode cX5_blame 4 = .ok (.ifCond .ne 31, 3) := by decide +kernel
theorem dX5_blame_7 : decode cX5_blame 7 = .ok (.aload_n 0, 1) := by decide +kernel
theorem dX5_blame_8 : decode cX5_blame 8 = .ok (.getfield 68, 3) := by decide +kernel
theorem dX5_blame_11 : decode cX5_blame 11 = .ok (.ifCond .lt 24, 3) := by decide +kernel
theorem dX5_blame_14 : decode cX5_blame 14 = .ok (.aload_n 0, 1) := by decide +kernel
theorem dX5_blame_15 : decode cX5_blame 15 = .ok (.iload_n 1, 1) := by decide +kernel
theorem dX5_blame_16 : decode cX5_blame 16 = .ok (.bipush 16, 2) := by decide +kernel
theorem dX5_blame_18 : decode cX5_blame 18 = .ok (.aload_n 0, 1) := by decide +kernel
theorem dX5_blame_19 : decode cX5_blame 19 = .ok (.getfield 23, 3) := by decide +kernel
theorem dX5_blame_22 : decode cX5_blame 22 = .ok (.getfield 82, 3) := by decide +kernel
theorem dX5_blame_25 : decode cX5_blame 25 = .ok (.aload_n 0, 1) := by decide +kernel
theorem dX5_blame_26 : decode cX5_blame 26 = .ok (.getfield 68, 3) := by decide +kernel
theorem dX5_blame_29 : decode cX5_blame 29 = .ok (.iaload, 1) := by decide +kernel
theorem dX5_blame_30 : decode cX5_blame 30 = .ok (.imul, 1) := by decide +kernel
theorem dX5_blame_31 : decode cX5_blame 31 = .ok (.iadd, 1) := by decide +kernel
theorem dX5_blame_32 : decode cX5_blame 32 = .ok (.putfield 31, 3) := by decide +kernel
theorem dX5_blame_35 : decode cX5_blame 35 = .ok (.return_, 1) := by decide +kernel
def F_X5_blame (a1 : Int32) (h : PH) : Option PH :=
  if (h.1 3 5) = 0 then
    if (h.1 3 2) < 0 then
      some h
    else
      if inb (h.1 3 2) 1001 = true then
      hb (hs h 3 5 (a1 + ((16 : Int32) * (h.1 13 (h.1 3 2).toNatClampNeg)))) fun h4 =>
      some h4
      else none
  else
    some h
set_option maxRecDepth 20000 in
set_option maxHeartbeats 4000000 in
theorem M_X5_blame (E : EV) {a1 : Int32} {h h2 : PH} (hyp : F_X5_blame a1 h = some h2) : MV E 103 yX5_blame cX5_blame 2 none 0 0 [.ref 3, .int a1] h h2 := by
  refine MV.of 0 (by decide) rfl (fun X e1 C => ?_)
  subst e1
  replace C : CX X 103 cX5_blame 2 RX5 none 0 0 := C
  show V X _ h 0 [some (.ref 3), some (.int a1)] []
  unfold F_X5_blame at hyp
  refine V_aload_n (pc := 0) C dX5_blame_0 rfl ?_
  refine V_getI (pc := 1) C dX5_blame_1 lf_X5_31 fk_3_5 ?_
  refine V_if_ne (pc := 4) C dX5_blame_4 (tgt := 35) (by decide) (fun q1 => ?_) (fun q1 => ?_)
  · replace hyp := (if_neg q1).symm.trans hyp
    cases hyp
    exact V_vret C dX5_blame_35
  · replace hyp := (if_pos q1).symm.trans hyp
    refine V_aload_n (pc := 7) C dX5_blame_7 rfl ?_
    refine V_getI (pc := 8) C dX5_blame_8 lf_X5_68 fk_3_2 ?_
    refine V_if_lt (pc := 11) C dX5_blame_11 (tgt := 35) (by decide) (fun q2 => ?_) (fun q2 => ?_)
    · replace hyp := (if_pos q2).symm.trans hyp
      cases hyp
      exact V_vret C dX5_blame_35
    · replace hyp := (if_neg q2).symm.trans hyp
      refine V_aload_n (pc := 14) C dX5_blame_14 rfl ?_
      refine V_iload_n (pc := 15) C dX5_blame_15 rfl ?_
      refine V_bipush (pc := 16) C dX5_blame_16 (v := 16) (by decide) ?_
      refine V_aload_n (pc := 18) C dX5_blame_18 rfl ?_
      refine V_getR (pc := 19) C dX5_blame_19 lf_X5_23 fk_3_1 ?_
      refine V_getR (pc := 22) C dX5_blame_22 lf_X5_82 fk_10_2 ?_
      refine V_aload_n (pc := 25) C dX5_blame_25 rfl ?_
      refine V_getI (pc := 26) C dX5_blame_26 lf_X5_68 fk_3_2 ?_
      obtain ⟨g3, hyp⟩ := gd_n hyp
      refine V_iald (pc := 29) C dX5_blame_29 ak_13 g3 ?_
      refine V_imul (pc := 30) C dX5_blame_30 ?_
      refine V_iadd (pc := 31) C dX5_blame_31 ?_
      obtain ⟨h4, eh4, hyp⟩ := hb_n hyp
      refine V_putI (pc := 32) C dX5_blame_32 lf_X5_31 fk_3_5 rfl rfl eh4 ?_
      cases hyp
      exact V_vret C dX5_blame_35
theorem dX5_refused_0 : decode cX5_refused 0 = .ok (.aload_n 0, 1) := by decide +kernel
theorem dX5_refused_1 : decode cX5_refused 1 = .ok (.iload_n 1, 1) := by decide +kernel
theorem dX5_refused_2 : decode cX5_refused 2 = .ok (.invokevirtual 85, 3) := by decide +kernel
theorem dX5_refused_5 : decode cX5_refused 5 = .ok (.iconst 0, 1) := by decide +kernel
theorem dX5_refused_6 : decode cX5_refused 6 = .ok (.ireturn, 1) := by decide +kernel
def F_X5_refused (a1 : Int32) (h : PH) : Option (Int32 × PH) :=
  bV (F_X5_blame a1 h) fun h2 =>
  some ((0 : Int32), h2)
set_option maxRecDepth 20000 in
set_option maxHeartbeats 4000000 in
theorem M_X5_refused (E : EV) {a1 : Int32} {r : Int32} {h h2 : PH} (hyp : F_X5_refused a1 h = some (r, h2)) : MI E 103 yX5_refused cX5_refused 2 (some .int) 1 21 [.ref 3, .int a1] h r h2 := by
  refine MI.of 0 (by decide) rfl (fun X e1 C => ?_)
  subst e1
  replace C : CX X 103 cX5_refused 2 RX5 (some .int) 1 21 := C
  show V X _ h 0 [some (.ref 3), some (.int a1)] []
  unfold F_X5_refused at hyp
  refine V_aload_n (pc := 0) C dX5_refused_0 rfl ?_
  refine V_iload_n (pc := 1) C dX5_refused_1 rfl ?_
  obtain ⟨h2, eh2, hyp⟩ := bV_n hyp
  refine V_callV (pc := 2) C dX5_refused_2 lm_X5_85 mk_X5_blame ok_3 rfl (M_X5_blame _ eh2) rfl pd_X5_blame (by decide) (by decide) (by decide) (As := [.int a1]) (rest := []) rfl (Nat.le_of_ble_eq_true rfl) ?_
  refine V_iconst (pc := 5) C dX5_refused_5 (v := 0) (by decide) ?_
  cases hyp
  exact V_iret C dX5_refused_6
theorem dX5_once_0 : decode cX5_once 0 = .ok (.aload_n 0, 1) := by decide +kernel
theorem dX5_once_1 : decode cX5_once 1 = .ok (.getfield 12, 3) := by decide +kernel
theorem dX5_once_4 : decode cX5_once 4 = .ok (.iload_n 1, 1) := by decide +kernel
theorem dX5_once_5 : decode cX5_once 5 = .ok (.invokevirtual 102, 3) := by decide +kernel
theorem dX5_once_8 : decode cX5_once 8 = .ok (.ifCond .eq 11, 3) := by decide +kernel
theorem dX5_once_11 : decode cX5_once 11 = .ok (.aload_n 0, 1) := by decide +kernel
theorem dX5_once_12 : decode cX5_once 12 = .ok (.iconst 3, 1) := by decide +kernel
theorem dX5_once_13 : decode cX5_once 13 = .ok (.invokevirtual 96, 3) := by decide +kernel
theorem dX5_once_16 : decode cX5_once 16 = .ok (.goto 4, 3) := by decide +kernel
theorem dX5_once_19 : decode cX5_once 19 = .ok (.iload_n 1, 1) := by decide +kernel
theorem dX5_once_20 : decode cX5_once 20 = .ok (.ireturn, 1) := by decide +kernel
def F_X5_once (a1 : Int32) (h : PH) : Option (Int32 × PH) :=
  bI (F_X2_isTold 4 a1 h) fun r1 h2 =>
  if r1 = 0 then
    some (a1, h2)
  else
    bI (F_X5_refused (3 : Int32) h2) fun r4 h5 =>
    some (r4, h5)
set_option maxRecDepth 20000 in
set_option maxHeartbeats 4000000 in
theorem M_X5_once (E : EV) {a1 : Int32} {r : Int32} {h h2 : PH} (hyp : F_X5_once a1 h = some (r, h2)) : MI E 103 yX5_once cX5_once 2 (some .int) 2 42 [.ref 3, .int a1] h r h2 := by
  refine MI.of 0 (by decide) rfl (fun X e1 C => ?_)
  subst e1
  replace C : CX X 103 cX5_once 2 RX5 (some .int) 2 42 := C
  show V X _ h 0 [some (.ref 3), some (.int a1)] []
  unfold F_X5_once at hyp
  refine V_aload_n (pc := 0) C dX5_once_0 rfl ?_
  refine V_getR (pc := 1) C dX5_once_1 lf_X5_12 fk_3_0 ?_
  refine V_iload_n (pc := 4) C dX5_once_4 rfl ?_
  obtain ⟨r1, h2, eh2, hyp⟩ := bI_n hyp
  refine V_callI (pc := 5) C dX5_once_5 lm_X5_102 mk_X2_isTold ok_4 rfl (M_X2_isTold _ isC_4 eh2) rfl pd_X2_isTold (by decide) (by decide) (by decide) (As := [.int a1]) (rest := []) rfl (Nat.le_of_ble_eq_true rfl) ?_
  refine V_if_eq (pc := 8) C dX5_once_8 (tgt := 19) (by decide) (fun q3 => ?_) (fun q3 => ?_)
  · replace hyp := (if_pos q3).symm.trans hyp
    refine V_iload_n (pc := 19) C dX5_once_19 rfl ?_
    cases hyp
    exact V_iret C dX5_once_20
  · replace hyp := (if_neg q3).symm.trans hyp
    refine V_aload_n (pc := 11) C dX5_once_11 rfl ?_
    refine V_iconst (pc := 12) C dX5_once_12 (v := 3) (by decide) ?_
    obtain ⟨r4, h5, eh5, hyp⟩ := bI_n hyp
    refine V_callI (pc := 13) C dX5_once_13 lm_X5_96 mk_X5_refused ok_3 rfl (M_X5_refused _ eh5) rfl pd_X5_refused (by decide) (by decide) (by decide) (As := [.int (3 : Int32)]) (rest := []) rfl (Nat.le_of_ble_eq_true rfl) ?_
    refine V_goto (pc := 16) C dX5_once_16 (tgt := 20) (by decide) ?_
    cases hyp
    exact V_iret C dX5_once_20
theorem dX5_lineTold_0 : decode cX5_lineTold 0 = .ok (.aload_n 0, 1) := by decide +kernel
theorem dX5_lineTold_1 : decode cX5_lineTold 1 = .ok (.getfield 35, 3) := by decide +kernel
theorem dX5_lineTold_4 : decode cX5_lineTold 4 = .ok (.istore_n 1, 1) := by decide +kernel
theorem dX5_lineTold_5 : decode cX5_lineTold 5 = .ok (.iload_n 1, 1) := by decide +kernel
theorem dX5_lineTold_6 : decode cX5_lineTold 6 = .ok (.tableswitch 170 12 17 #[38, 67, 67, 67, 79, 126], 38) := by decide +kernel
theorem dX5_lineTold_44 : decode cX5_lineTold 44 = .ok (.aload_n 0, 1) := by decide +kernel
theorem dX5_lineTold_45 : decode cX5_lineTold 45 = .ok (.invokevirtual 71, 3) := by decide +kernel
theorem dX5_lineTold_48 : decode cX5_lineTold 48 = .ok (.aload_n 0, 1) := by decide +kernel
theorem dX5_lineTold_49 : decode cX5_lineTold 49 = .ok (.getfield 35, 3) := by decide +kernel
theorem dX5_lineTold_52 : decode cX5_lineTold 52 = .ok (.iconst 3, 1) := by decide +kernel
theorem dX5_lineTold_53 : decode cX5_lineTold 53 = .ok (.if_icmp .ne 14, 3) := by decide +kernel
theorem dX5_lineTold_56 : decode cX5_lineTold 56 = .ok (.aload_n 0, 1) := by decide +kernel
theorem dX5_lineTold_57 : decode cX5_lineTold 57 = .ok (.aload_n 0, 1) := by decide +kernel
theorem dX5_lineTold_58 : decode cX5_lineTold 58 = .ok (.getfield 80, 3) := by decide +kernel
theorem dX5_lineTold_61 : decode cX5_lineTold 61 = .ok (.invokevirtual 92, 3) := by decide +kernel
theorem dX5_lineTold_64 : decode cX5_lineTold 64 = .ok (.goto 8, 3) := by decide +kernel
theorem dX5_lineTold_67 : decode cX5_lineTold 67 = .ok (.aload_n 0, 1) := by decide +kernel
theorem dX5_lineTold_68 : decode cX5_lineTold 68 = .ok (.iconst 1, 1) := by decide +kernel
theorem dX5_lineTold_69 : decode cX5_lineTold 69 = .ok (.invokevirtual 96, 3) := by decide +kernel
theorem dX5_lineTold_72 : decode cX5_lineTold 72 = .ok (.ireturn, 1) := by decide +kernel
theorem dX5_lineTold_73 : decode cX5_lineTold 73 = .ok (.aload_n 0, 1) := by decide +kernel
theorem dX5_lineTold_74 : decode cX5_lineTold 74 = .ok (.bipush 8, 2) := by decide +kernel
theorem dX5_lineTold_76 : decode cX5_lineTold 76 = .ok (.iload_n 1, 1) := by decide +kernel
theorem dX5_lineTold_77 : decode cX5_lineTold 77 = .ok (.iadd, 1) := by decide +kernel
theorem dX5_lineTold_78 : decode cX5_lineTold 78 = .ok (.bipush 13, 2) := by decide +kernel
theorem dX5_lineTold_80 : decode cX5_lineTold 80 = .ok (.isub, 1) := by decide +kernel
theorem dX5_lineTold_81 : decode cX5_lineTold 81 = .ok (.invokevirtual 92, 3) := by decide +kernel
theorem dX5_lineTold_84 : decode cX5_lineTold 84 = .ok (.ireturn, 1) := by decide +kernel
theorem dX5_lineTold_85 : decode cX5_lineTold 85 = .ok (.aload_n 0, 1) := by decide +kernel
theorem dX5_lineTold_86 : decode cX5_lineTold 86 = .ok (.invokevirtual 71, 3) := by decide +kernel
theorem dX5_lineTold_89 : decode cX5_lineTold 89 = .ok (.aload_n 0, 1) := by decide +kernel
theorem dX5_lineTold_90 : decode cX5_lineTold 90 = .ok (.getfield 35, 3) := by decide +kernel
theorem dX5_lineTold_93 : decode cX5_lineTold 93 = .ok (.iconst 2, 1) := by decide +kernel
theorem dX5_lineTold_94 : decode cX5_lineTold 94 = .ok (.if_icmp .eq 9, 3) := by decide +kernel
theorem dX5_lineTold_97 : decode cX5_lineTold 97 = .ok (.aload_n 0, 1) := by decide +kernel
theorem dX5_lineTold_98 : decode cX5_lineTold 98 = .ok (.iconst 1, 1) := by decide +kernel
theorem dX5_lineTold_99 : decode cX5_lineTold 99 = .ok (.invokevirtual 96, 3) := by decide +kernel
theorem dX5_lineTold_102 : decode cX5_lineTold 102 = .ok (.ireturn, 1) := by decide +kernel
theorem dX5_lineTold_103 : decode cX5_lineTold 103 = .ok (.aload_n 0, 1) := by decide +kernel
theorem dX5_lineTold_104 : decode cX5_lineTold 104 = .ok (.getfield 80, 3) := by decide +kernel
theorem dX5_lineTold_107 : decode cX5_lineTold 107 = .ok (.bipush 8, 2) := by decide +kernel
theorem dX5_lineTold_109 : decode cX5_lineTold 109 = .ok (.if_icmp .ge 17, 3) := by decide +kernel
theorem dX5_lineTold_112 : decode cX5_lineTold 112 = .ok (.aload_n 0, 1) := by decide +kernel
theorem dX5_lineTold_113 : decode cX5_lineTold 113 = .ok (.bipush 11, 2) := by decide +kernel
theorem dX5_lineTold_115 : decode cX5_lineTold 115 = .ok (.aload_n 0, 1) := by decide +kernel
theorem dX5_lineTold_116 : decode cX5_lineTold 116 = .ok (.getfield 80, 3) := by decide +kernel
theorem dX5_lineTold_119 : decode cX5_lineTold 119 = .ok (.iadd, 1) := by decide +kernel
theorem dX5_lineTold_120 : decode cX5_lineTold 120 = .ok (.invokevirtual 92, 3) := by decide +kernel
theorem dX5_lineTold_123 : decode cX5_lineTold 123 = .ok (.goto 8, 3) := by decide +kernel
theorem dX5_lineTold_126 : decode cX5_lineTold 126 = .ok (.aload_n 0, 1) := by decide +kernel
theorem dX5_lineTold_127 : decode cX5_lineTold 127 = .ok (.iconst 4, 1) := by decide +kernel
theorem dX5_lineTold_128 : decode cX5_lineTold 128 = .ok (.invokevirtual 96, 3) := by decide +kernel
theorem dX5_lineTold_131 : decode cX5_lineTold 131 = .ok (.ireturn, 1) := by decide +kernel
theorem dX5_lineTold_132 : decode cX5_lineTold 132 = .ok (.aload_n 0, 1) := by decide +kernel
theorem dX5_lineTold_133 : decode cX5_lineTold 133 = .ok (.getfield 12, 3) := by decide +kernel
theorem dX5_lineTold_136 : decode cX5_lineTold 136 = .ok (.getfield 99, 3) := by decide +kernel
theorem dX5_lineTold_139 : decode cX5_lineTold 139 = .ok (.bipush 6, 2) := by decide +kernel
theorem dX5_lineTold_141 : decode cX5_lineTold 141 = .ok (.if_icmp .lt 9, 3) := by decide +kernel
theorem dX5_lineTold_144 : decode cX5_lineTold 144 = .ok (.aload_n 0, 1) := by decide +kernel
theorem dX5_lineTold_145 : decode cX5_lineTold 145 = .ok (.iconst 5, 1) := by decide +kernel
theorem dX5_lineTold_146 : decode cX5_lineTold 146 = .ok (.invokevirtual 96, 3) := by decide +kernel
theorem dX5_lineTold_149 : decode cX5_lineTold 149 = .ok (.ireturn, 1) := by decide +kernel
theorem dX5_lineTold_150 : decode cX5_lineTold 150 = .ok (.aload_n 0, 1) := by decide +kernel
theorem dX5_lineTold_151 : decode cX5_lineTold 151 = .ok (.getfield 12, 3) := by decide +kernel
theorem dX5_lineTold_154 : decode cX5_lineTold 154 = .ok (.dup, 1) := by decide +kernel
theorem dX5_lineTold_155 : decode cX5_lineTold 155 = .ok (.getfield 99, 3) := by decide +kernel
theorem dX5_lineTold_158 : decode cX5_lineTold 158 = .ok (.iconst 1, 1) := by decide +kernel
theorem dX5_lineTold_159 : decode cX5_lineTold 159 = .ok (.iadd, 1) := by decide +kernel
theorem dX5_lineTold_160 : decode cX5_lineTold 160 = .ok (.putfield 99, 3) := by decide +kernel
theorem dX5_lineTold_163 : decode cX5_lineTold 163 = .ok (.bipush 19, 2) := by decide +kernel
theorem dX5_lineTold_165 : decode cX5_lineTold 165 = .ok (.aload_n 0, 1) := by decide +kernel
theorem dX5_lineTold_166 : decode cX5_lineTold 166 = .ok (.getfield 12, 3) := by decide +kernel
theorem dX5_lineTold_169 : decode cX5_lineTold 169 = .ok (.getfield 99, 3) := by decide +kernel
theorem dX5_lineTold_172 : decode cX5_lineTold 172 = .ok (.iadd, 1) := by decide +kernel
theorem dX5_lineTold_173 : decode cX5_lineTold 173 = .ok (.iconst 1, 1) := by decide +kernel
theorem dX5_lineTold_174 : decode cX5_lineTold 174 = .ok (.isub, 1) := by decide +kernel
theorem dX5_lineTold_175 : decode cX5_lineTold 175 = .ok (.ireturn, 1) := by decide +kernel
theorem dX5_lineTold_176 : decode cX5_lineTold 176 = .ok (.aload_n 0, 1) := by decide +kernel
theorem dX5_lineTold_177 : decode cX5_lineTold 177 = .ok (.iconst 1, 1) := by decide +kernel
theorem dX5_lineTold_178 : decode cX5_lineTold 178 = .ok (.invokevirtual 96, 3) := by decide +kernel
theorem dX5_lineTold_181 : decode cX5_lineTold 181 = .ok (.ireturn, 1) := by decide +kernel
def F_X5_lineTold_b73 (x1 : Int32) (h : PH) : Option (Int32 × PH) :=
  bI (F_X5_once (((8 : Int32) + x1) - (13 : Int32)) h) fun r1 h2 =>
  some (r1, h2)
set_option maxRecDepth 20000 in
set_option maxHeartbeats 4000000 in
theorem T_X5_lineTold_b73 {X : CT} (C : CX X 103 cX5_lineTold 2 RX5 (some .int) 3 63) {r0 : Int32} {h0 : PH} : ∀ (x1 : Int32) (h : PH), F_X5_lineTold_b73 x1 h = some (r0, h0) → V X (QI X r0 h0) h 73 [some (.ref 3), some (.int x1)] [] := by
  intro x1 h hyp
  unfold F_X5_lineTold_b73 at hyp
  refine V_aload_n (pc := 73) C dX5_lineTold_73 rfl ?_
  refine V_bipush (pc := 74) C dX5_lineTold_74 (v := 8) (by decide) ?_
  refine V_iload_n (pc := 76) C dX5_lineTold_76 rfl ?_
  refine V_iadd (pc := 77) C dX5_lineTold_77 ?_
  refine V_bipush (pc := 78) C dX5_lineTold_78 (v := 13) (by decide) ?_
  refine V_isub (pc := 80) C dX5_lineTold_80 ?_
  obtain ⟨r1, h2, eh2, hyp⟩ := bI_n hyp
  refine V_callI (pc := 81) C dX5_lineTold_81 lm_X5_92 mk_X5_once ok_3 rfl (M_X5_once _ eh2) rfl pd_X5_once (by decide) (by decide) (by decide) (As := [.int (((8 : Int32) + x1) - (13 : Int32))]) (rest := []) rfl (Nat.le_of_ble_eq_true rfl) ?_
  cases hyp
  exact V_iret C dX5_lineTold_84
def F_X5_lineTold (h : PH) : Option (Int32 × PH) :=
  ib (h.1 3 3) fun v1 =>
  if v1 = (12 : Int32) then
    bV (F_X5_advance  h) fun h4 =>
    if (h4.1 3 3) = (3 : Int32) then
      bI (F_X5_once (h4.1 3 4) h4) fun r8 h9 =>
      some (r8, h9)
    else
      bI (F_X5_refused (1 : Int32) h4) fun r6 h7 =>
      some (r6, h7)
  else
  if v1 = (13 : Int32) then
    F_X5_lineTold_b73 v1 h
  else
  if v1 = (14 : Int32) then
    F_X5_lineTold_b73 v1 h
  else
  if v1 = (15 : Int32) then
    F_X5_lineTold_b73 v1 h
  else
  if v1 = (16 : Int32) then
    bV (F_X5_advance  h) fun h15 =>
    if (h15.1 3 3) = (2 : Int32) then
      if (8 : Int32) ≤ (h15.1 3 4) then
        bI (F_X5_refused (4 : Int32) h15) fun r18 h19 =>
        some (r18, h19)
      else
        bI (F_X5_once ((11 : Int32) + (h15.1 3 4)) h15) fun r20 h21 =>
        some (r20, h21)
    else
      bI (F_X5_refused (1 : Int32) h15) fun r22 h23 =>
      some (r22, h23)
  else
  if v1 = (17 : Int32) then
    if (h.1 4 1) < (6 : Int32) then
      hb (hs h 4 1 ((h.1 4 1) + (1 : Int32))) fun h26 =>
      some (((19 : Int32) + (h26.1 4 1)) - (1 : Int32), h26)
    else
      bI (F_X5_refused (5 : Int32) h) fun r27 h28 =>
      some (r27, h28)
  else
  bI (F_X5_refused (1 : Int32) h) fun r29 h30 =>
  some (r29, h30)
set_option maxRecDepth 20000 in
set_option maxHeartbeats 4000000 in
theorem M_X5_lineTold (E : EV) {r : Int32} {h h2 : PH} (hyp : F_X5_lineTold  h = some (r, h2)) : MI E 103 yX5_lineTold cX5_lineTold 2 (some .int) 3 63 [.ref 3] h r h2 := by
  refine MI.of 1 (by decide) rfl (fun X e1 C => ?_)
  subst e1
  replace C : CX X 103 cX5_lineTold 2 RX5 (some .int) 3 63 := C
  show V X _ h 0 [some (.ref 3), none] []
  unfold F_X5_lineTold at hyp
  refine V_aload_n (pc := 0) C dX5_lineTold_0 rfl ?_
  refine V_getI (pc := 1) C dX5_lineTold_1 lf_X5_35 fk_3_3 ?_
  obtain ⟨v1, ev1, hyp⟩ := ib_n hyp
  refine V_topI ev1 ?_
  refine V_istore_n (pc := 4) C dX5_lineTold_4 (by decide) rfl ?_
  refine V_iload_n (pc := 5) C dX5_lineTold_5 rfl ?_
  by_cases q2 : v1 = (12 : Int32)
  · replace hyp := (if_pos q2).symm.trans hyp
    refine V_tsIn (pc := 6) C (12 : Int32) dX5_lineTold_6 (off := 38) (tgt := 44) q2 (by decide) (by decide) rfl (by decide) ?_
    refine V_aload_n (pc := 44) C dX5_lineTold_44 rfl ?_
    obtain ⟨h4, eh4, hyp⟩ := bV_n hyp
    refine V_callV (pc := 45) C dX5_lineTold_45 lm_X5_71 mk_X5_advance ok_3 rfl (M_X5_advance _ eh4) rfl pd_X5_advance (by decide) (by decide) (by decide) (As := []) (rest := []) rfl (Nat.le_of_ble_eq_true rfl) ?_
    refine V_aload_n (pc := 48) C dX5_lineTold_48 rfl ?_
    refine V_getI (pc := 49) C dX5_lineTold_49 lf_X5_35 fk_3_3 ?_
    refine V_iconst (pc := 52) C dX5_lineTold_52 (v := 3) (by decide) ?_
    refine V_icmp_ne (pc := 53) C dX5_lineTold_53 (tgt := 67) (by decide) (fun q5 => ?_) (fun q5 => ?_)
    · replace hyp := (if_neg q5).symm.trans hyp
      refine V_aload_n (pc := 67) C dX5_lineTold_67 rfl ?_
      refine V_iconst (pc := 68) C dX5_lineTold_68 (v := 1) (by decide) ?_
      obtain ⟨r6, h7, eh7, hyp⟩ := bI_n hyp
      refine V_callI (pc := 69) C dX5_lineTold_69 lm_X5_96 mk_X5_refused ok_3 rfl (M_X5_refused _ eh7) rfl pd_X5_refused (by decide) (by decide) (by decide) (As := [.int (1 : Int32)]) (rest := []) rfl (Nat.le_of_ble_eq_true rfl) ?_
      cases hyp
      exact V_iret C dX5_lineTold_72
    · replace hyp := (if_pos q5).symm.trans hyp
      refine V_aload_n (pc := 56) C dX5_lineTold_56 rfl ?_
      refine V_aload_n (pc := 57) C dX5_lineTold_57 rfl ?_
      refine V_getI (pc := 58) C dX5_lineTold_58 lf_X5_80 fk_3_4 ?_
      obtain ⟨r8, h9, eh9, hyp⟩ := bI_n hyp
      refine V_callI (pc := 61) C dX5_lineTold_61 lm_X5_92 mk_X5_once ok_3 rfl (M_X5_once _ eh9) rfl pd_X5_once (by decide) (by decide) (by decide) (As := [.int (h4.1 3 4)]) (rest := []) rfl (Nat.le_of_ble_eq_true rfl) ?_
      refine V_goto (pc := 64) C dX5_lineTold_64 (tgt := 72) (by decide) ?_
      cases hyp
      exact V_iret C dX5_lineTold_72
  · replace hyp := (if_neg q2).symm.trans hyp
    by_cases q10 : v1 = (13 : Int32)
    · replace hyp := (if_pos q10).symm.trans hyp
      refine V_tsIn (pc := 6) C (13 : Int32) dX5_lineTold_6 (off := 67) (tgt := 73) q10 (by decide) (by decide) rfl (by decide) ?_
      refine V_weak (lv' := [some (.ref 3), some (.int v1)]) (lvle_s (lvle_s lvle_0)) ?_
      exact (T_X5_lineTold_b73 C) v1 h hyp
    · replace hyp := (if_neg q10).symm.trans hyp
      by_cases q11 : v1 = (14 : Int32)
      · replace hyp := (if_pos q11).symm.trans hyp
        refine V_tsIn (pc := 6) C (14 : Int32) dX5_lineTold_6 (off := 67) (tgt := 73) q11 (by decide) (by decide) rfl (by decide) ?_
        refine V_weak (lv' := [some (.ref 3), some (.int v1)]) (lvle_s (lvle_s lvle_0)) ?_
        exact (T_X5_lineTold_b73 C) v1 h hyp
      · replace hyp := (if_neg q11).symm.trans hyp
        by_cases q12 : v1 = (15 : Int32)
        · replace hyp := (if_pos q12).symm.trans hyp
          refine V_tsIn (pc := 6) C (15 : Int32) dX5_lineTold_6 (off := 67) (tgt := 73) q12 (by decide) (by decide) rfl (by decide) ?_
          refine V_weak (lv' := [some (.ref 3), some (.int v1)]) (lvle_s (lvle_s lvle_0)) ?_
          exact (T_X5_lineTold_b73 C) v1 h hyp
        · replace hyp := (if_neg q12).symm.trans hyp
          by_cases q13 : v1 = (16 : Int32)
          · replace hyp := (if_pos q13).symm.trans hyp
            refine V_tsIn (pc := 6) C (16 : Int32) dX5_lineTold_6 (off := 79) (tgt := 85) q13 (by decide) (by decide) rfl (by decide) ?_
            refine V_aload_n (pc := 85) C dX5_lineTold_85 rfl ?_
            obtain ⟨h15, eh15, hyp⟩ := bV_n hyp
            refine V_callV (pc := 86) C dX5_lineTold_86 lm_X5_71 mk_X5_advance ok_3 rfl (M_X5_advance _ eh15) rfl pd_X5_advance (by decide) (by decide) (by decide) (As := []) (rest := []) rfl (Nat.le_of_ble_eq_true rfl) ?_
            refine V_aload_n (pc := 89) C dX5_lineTold_89 rfl ?_
            refine V_getI (pc := 90) C dX5_lineTold_90 lf_X5_35 fk_3_3 ?_
            refine V_iconst (pc := 93) C dX5_lineTold_93 (v := 2) (by decide) ?_
            refine V_icmp_eq (pc := 94) C dX5_lineTold_94 (tgt := 103) (by decide) (fun q16 => ?_) (fun q16 => ?_)
            · replace hyp := (if_pos q16).symm.trans hyp
              refine V_aload_n (pc := 103) C dX5_lineTold_103 rfl ?_
              refine V_getI (pc := 104) C dX5_lineTold_104 lf_X5_80 fk_3_4 ?_
              refine V_bipush (pc := 107) C dX5_lineTold_107 (v := 8) (by decide) ?_
              refine V_icmp_ge (pc := 109) C dX5_lineTold_109 (tgt := 126) (by decide) (fun q17 => ?_) (fun q17 => ?_)
              · replace hyp := (if_pos q17).symm.trans hyp
                refine V_aload_n (pc := 126) C dX5_lineTold_126 rfl ?_
                refine V_iconst (pc := 127) C dX5_lineTold_127 (v := 4) (by decide) ?_
                obtain ⟨r18, h19, eh19, hyp⟩ := bI_n hyp
                refine V_callI (pc := 128) C dX5_lineTold_128 lm_X5_96 mk_X5_refused ok_3 rfl (M_X5_refused _ eh19) rfl pd_X5_refused (by decide) (by decide) (by decide) (As := [.int (4 : Int32)]) (rest := []) rfl (Nat.le_of_ble_eq_true rfl) ?_
                cases hyp
                exact V_iret C dX5_lineTold_131
              · replace hyp := (if_neg q17).symm.trans hyp
                refine V_aload_n (pc := 112) C dX5_lineTold_112 rfl ?_
                refine V_bipush (pc := 113) C dX5_lineTold_113 (v := 11) (by decide) ?_
                refine V_aload_n (pc := 115) C dX5_lineTold_115 rfl ?_
                refine V_getI (pc := 116) C dX5_lineTold_116 lf_X5_80 fk_3_4 ?_
                refine V_iadd (pc := 119) C dX5_lineTold_119 ?_
                obtain ⟨r20, h21, eh21, hyp⟩ := bI_n hyp
                refine V_callI (pc := 120) C dX5_lineTold_120 lm_X5_92 mk_X5_once ok_3 rfl (M_X5_once _ eh21) rfl pd_X5_once (by decide) (by decide) (by decide) (As := [.int ((11 : Int32) + (h15.1 3 4))]) (rest := []) rfl (Nat.le_of_ble_eq_true rfl) ?_
                refine V_goto (pc := 123) C dX5_lineTold_123 (tgt := 131) (by decide) ?_
                cases hyp
                exact V_iret C dX5_lineTold_131
            · replace hyp := (if_neg q16).symm.trans hyp
              refine V_aload_n (pc := 97) C dX5_lineTold_97 rfl ?_
              refine V_iconst (pc := 98) C dX5_lineTold_98 (v := 1) (by decide) ?_
              obtain ⟨r22, h23, eh23, hyp⟩ := bI_n hyp
              refine V_callI (pc := 99) C dX5_lineTold_99 lm_X5_96 mk_X5_refused ok_3 rfl (M_X5_refused _ eh23) rfl pd_X5_refused (by decide) (by decide) (by decide) (As := [.int (1 : Int32)]) (rest := []) rfl (Nat.le_of_ble_eq_true rfl) ?_
              cases hyp
              exact V_iret C dX5_lineTold_102
          · replace hyp := (if_neg q13).symm.trans hyp
            by_cases q24 : v1 = (17 : Int32)
            · replace hyp := (if_pos q24).symm.trans hyp
              refine V_tsIn (pc := 6) C (17 : Int32) dX5_lineTold_6 (off := 126) (tgt := 132) q24 (by decide) (by decide) rfl (by decide) ?_
              refine V_aload_n (pc := 132) C dX5_lineTold_132 rfl ?_
              refine V_getR (pc := 133) C dX5_lineTold_133 lf_X5_12 fk_3_0 ?_
              refine V_getI (pc := 136) C dX5_lineTold_136 lf_X5_99 fk_4_1 ?_
              refine V_bipush (pc := 139) C dX5_lineTold_139 (v := 6) (by decide) ?_
              refine V_icmp_lt (pc := 141) C dX5_lineTold_141 (tgt := 150) (by decide) (fun q25 => ?_) (fun q25 => ?_)
              · replace hyp := (if_pos q25).symm.trans hyp
                refine V_aload_n (pc := 150) C dX5_lineTold_150 rfl ?_
                refine V_getR (pc := 151) C dX5_lineTold_151 lf_X5_12 fk_3_0 ?_
                refine V_dup (pc := 154) C dX5_lineTold_154 rfl ?_
                refine V_getI (pc := 155) C dX5_lineTold_155 lf_X5_99 fk_4_1 ?_
                refine V_iconst (pc := 158) C dX5_lineTold_158 (v := 1) (by decide) ?_
                refine V_iadd (pc := 159) C dX5_lineTold_159 ?_
                obtain ⟨h26, eh26, hyp⟩ := hb_n hyp
                refine V_putI (pc := 160) C dX5_lineTold_160 lf_X5_99 fk_4_1 rfl rfl eh26 ?_
                refine V_bipush (pc := 163) C dX5_lineTold_163 (v := 19) (by decide) ?_
                refine V_aload_n (pc := 165) C dX5_lineTold_165 rfl ?_
                refine V_getR (pc := 166) C dX5_lineTold_166 lf_X5_12 fk_3_0 ?_
                refine V_getI (pc := 169) C dX5_lineTold_169 lf_X5_99 fk_4_1 ?_
                refine V_iadd (pc := 172) C dX5_lineTold_172 ?_
                refine V_iconst (pc := 173) C dX5_lineTold_173 (v := 1) (by decide) ?_
                refine V_isub (pc := 174) C dX5_lineTold_174 ?_
                cases hyp
                exact V_iret C dX5_lineTold_175
              · replace hyp := (if_neg q25).symm.trans hyp
                refine V_aload_n (pc := 144) C dX5_lineTold_144 rfl ?_
                refine V_iconst (pc := 145) C dX5_lineTold_145 (v := 5) (by decide) ?_
                obtain ⟨r27, h28, eh28, hyp⟩ := bI_n hyp
                refine V_callI (pc := 146) C dX5_lineTold_146 lm_X5_96 mk_X5_refused ok_3 rfl (M_X5_refused _ eh28) rfl pd_X5_refused (by decide) (by decide) (by decide) (As := [.int (5 : Int32)]) (rest := []) rfl (Nat.le_of_ble_eq_true rfl) ?_
                cases hyp
                exact V_iret C dX5_lineTold_149
            · replace hyp := (if_neg q24).symm.trans hyp
              refine V_tsOut (pc := 6) C dX5_lineTold_6 (tgt := 176) (fun k k1 k2 => ?_) (by decide) ?_
              · rcases (show k = 12 ∨ k = 13 ∨ k = 14 ∨ k = 15 ∨ k = 16 ∨ k = 17 by omega) with rfl | rfl | rfl | rfl | rfl | rfl
                · exact q2
                · exact q10
                · exact q11
                · exact q12
                · exact q13
                · exact q24
              · refine V_aload_n (pc := 176) C dX5_lineTold_176 rfl ?_
                refine V_iconst (pc := 177) C dX5_lineTold_177 (v := 1) (by decide) ?_
                obtain ⟨r29, h30, eh30, hyp⟩ := bI_n hyp
                refine V_callI (pc := 178) C dX5_lineTold_178 lm_X5_96 mk_X5_refused ok_3 rfl (M_X5_refused _ eh30) rfl pd_X5_refused (by decide) (by decide) (by decide) (As := [.int (1 : Int32)]) (rest := []) rfl (Nat.le_of_ble_eq_true rfl) ?_
                cases hyp
                exact V_iret C dX5_lineTold_181
theorem dX5_expect_0 : decode cX5_expect 0 = .ok (.aload_n 0, 1) := by decide +kernel
theorem dX5_expect_1 : decode cX5_expect 1 = .ok (.getfield 31, 3) := by decide +kernel
theorem dX5_expect_4 : decode cX5_expect 4 = .ok (.ifCond .eq 4, 3) := by decide +kernel
theorem dX5_expect_7 : decode cX5_expect 7 = .ok (.return_, 1) := by decide +kernel
theorem dX5_expect_8 : decode cX5_expect 8 = .ok (.aload_n 0, 1) := by decide +kernel
theorem dX5_expect_9 : decode cX5_expect 9 = .ok (.getfield 35, 3) := by decide +kernel
theorem dX5_expect_12 : decode cX5_expect 12 = .ok (.iload_n 1, 1) := by decide +kernel
theorem dX5_expect_13 : decode cX5_expect 13 = .ok (.if_icmp .ne 10, 3) := by decide +kernel
theorem dX5_expect_16 : decode cX5_expect 16 = .ok (.aload_n 0, 1) := by decide +kernel
theorem dX5_expect_17 : decode cX5_expect 17 = .ok (.invokevirtual 71, 3) := by decide +kernel
theorem dX5_expect_20 : decode cX5_expect 20 = .ok (.goto 8, 3) := by decide +kernel
theorem dX5_expect_23 : decode cX5_expect 23 = .ok (.aload_n 0, 1) := by decide +kernel
theorem dX5_expect_24 : decode cX5_expect 24 = .ok (.iconst 1, 1) := by decide +kernel
theorem dX5_expect_25 : decode cX5_expect 25 = .ok (.invokevirtual 85, 3) := by decide +kernel
theorem dX5_expect_28 : decode cX5_expect 28 = .ok (.return_, 1) := by decide +kernel
def F_X5_expect (a1 : Int32) (h : PH) : Option PH :=
  if (h.1 3 5) = 0 then
    if (h.1 3 3) = a1 then
      bV (F_X5_advance  h) fun h6 =>
      some h6
    else
      bV (F_X5_blame (1 : Int32) h) fun h4 =>
      some h4
  else
    some h
set_option maxRecDepth 20000 in
set_option maxHeartbeats 4000000 in
theorem M_X5_expect (E : EV) {a1 : Int32} {h h2 : PH} (hyp : F_X5_expect a1 h = some h2) : MV E 103 yX5_expect cX5_expect 2 none 1 21 [.ref 3, .int a1] h h2 := by
  refine MV.of 0 (by decide) rfl (fun X e1 C => ?_)
  subst e1
  replace C : CX X 103 cX5_expect 2 RX5 none 1 21 := C
  show V X _ h 0 [some (.ref 3), some (.int a1)] []
  unfold F_X5_expect at hyp
  refine V_aload_n (pc := 0) C dX5_expect_0 rfl ?_
  refine V_getI (pc := 1) C dX5_expect_1 lf_X5_31 fk_3_5 ?_
  refine V_if_eq (pc := 4) C dX5_expect_4 (tgt := 8) (by decide) (fun q1 => ?_) (fun q1 => ?_)
  · replace hyp := (if_pos q1).symm.trans hyp
    refine V_aload_n (pc := 8) C dX5_expect_8 rfl ?_
    refine V_getI (pc := 9) C dX5_expect_9 lf_X5_35 fk_3_3 ?_
    refine V_iload_n (pc := 12) C dX5_expect_12 rfl ?_
    refine V_icmp_ne (pc := 13) C dX5_expect_13 (tgt := 23) (by decide) (fun q2 => ?_) (fun q2 => ?_)
    · replace hyp := (if_neg q2).symm.trans hyp
      refine V_aload_n (pc := 23) C dX5_expect_23 rfl ?_
      refine V_iconst (pc := 24) C dX5_expect_24 (v := 1) (by decide) ?_
      obtain ⟨h4, eh4, hyp⟩ := bV_n hyp
      refine V_callV (pc := 25) C dX5_expect_25 lm_X5_85 mk_X5_blame ok_3 rfl (M_X5_blame _ eh4) rfl pd_X5_blame (by decide) (by decide) (by decide) (As := [.int (1 : Int32)]) (rest := []) rfl (Nat.le_of_ble_eq_true rfl) ?_
      cases hyp
      exact V_vret C dX5_expect_28
    · replace hyp := (if_pos q2).symm.trans hyp
      refine V_aload_n (pc := 16) C dX5_expect_16 rfl ?_
      obtain ⟨h6, eh6, hyp⟩ := bV_n hyp
      refine V_callV (pc := 17) C dX5_expect_17 lm_X5_71 mk_X5_advance ok_3 rfl (M_X5_advance _ eh6) rfl pd_X5_advance (by decide) (by decide) (by decide) (As := []) (rest := []) rfl (Nat.le_of_ble_eq_true rfl) ?_
      refine V_goto (pc := 20) C dX5_expect_20 (tgt := 28) (by decide) ?_
      cases hyp
      exact V_vret C dX5_expect_28
  · replace hyp := (if_neg q1).symm.trans hyp
    cases hyp
    exact V_vret C dX5_expect_7
theorem dX5_beginsPart_0 : decode cX5_beginsPart 0 = .ok (.iload_n 1, 1) := by decide +kernel
theorem dX5_beginsPart_1 : decode cX5_beginsPart 1 = .ok (.iconst 2, 1) := by decide +kernel
theorem dX5_beginsPart_2 : decode cX5_beginsPart 2 = .ok (.if_icmp .eq 14, 3) := by decide +kernel
theorem dX5_beginsPart_5 : decode cX5_beginsPart 5 = .ok (.iload_n 1, 1) := by decide +kernel
theorem dX5_beginsPart_6 : decode cX5_beginsPart 6 = .ok (.bipush 18, 2) := by decide +kernel
theorem dX5_beginsPart_8 : decode cX5_beginsPart 8 = .ok (.if_icmp .eq 8, 3) := by decide +kernel
theorem dX5_beginsPart_11 : decode cX5_beginsPart 11 = .ok (.iload_n 1, 1) := by decide +kernel
theorem dX5_beginsPart_12 : decode cX5_beginsPart 12 = .ok (.iconst 4, 1) := by decide +kernel
theorem dX5_beginsPart_13 : decode cX5_beginsPart 13 = .ok (.if_icmp .ne 5, 3) := by decide +kernel
theorem dX5_beginsPart_16 : decode cX5_beginsPart 16 = .ok (.iconst 1, 1) := by decide +kernel
theorem dX5_beginsPart_17 : decode cX5_beginsPart 17 = .ok (.ireturn, 1) := by decide +kernel
theorem dX5_beginsPart_18 : decode cX5_beginsPart 18 = .ok (.aload_n 0, 1) := by decide +kernel
theorem dX5_beginsPart_19 : decode cX5_beginsPart 19 = .ok (.getfield 61, 3) := by decide +kernel
theorem dX5_beginsPart_22 : decode cX5_beginsPart 22 = .ok (.ifCond .eq 21, 3) := by decide +kernel
theorem dX5_beginsPart_25 : decode cX5_beginsPart 25 = .ok (.iload_n 1, 1) := by decide +kernel
theorem dX5_beginsPart_26 : decode cX5_beginsPart 26 = .ok (.bipush 25, 2) := by decide +kernel
theorem dX5_beginsPart_28 : decode cX5_beginsPart 28 = .ok (.if_icmp .lt 13, 3) := by decide +kernel
theorem dX5_beginsPart_31 : decode cX5_beginsPart 31 = .ok (.iload_n 1, 1) := by decide +kernel
theorem dX5_beginsPart_32 : decode cX5_beginsPart 32 = .ok (.bipush 34, 2) := by decide +kernel
theorem dX5_beginsPart_34 : decode cX5_beginsPart 34 = .ok (.if_icmp .gt 7, 3) := by decide +kernel
theorem dX5_beginsPart_37 : decode cX5_beginsPart 37 = .ok (.iconst 1, 1) := by decide +kernel
theorem dX5_beginsPart_38 : decode cX5_beginsPart 38 = .ok (.goto 4, 3) := by decide +kernel
theorem dX5_beginsPart_41 : decode cX5_beginsPart 41 = .ok (.iconst 0, 1) := by decide +kernel
theorem dX5_beginsPart_42 : decode cX5_beginsPart 42 = .ok (.ireturn, 1) := by decide +kernel
theorem dX5_beginsPart_43 : decode cX5_beginsPart 43 = .ok (.iload_n 1, 1) := by decide +kernel
theorem dX5_beginsPart_44 : decode cX5_beginsPart 44 = .ok (.iconst 3, 1) := by decide +kernel
theorem dX5_beginsPart_45 : decode cX5_beginsPart 45 = .ok (.if_icmp .eq 15, 3) := by decide +kernel
theorem dX5_beginsPart_48 : decode cX5_beginsPart 48 = .ok (.iload_n 1, 1) := by decide +kernel
theorem dX5_beginsPart_49 : decode cX5_beginsPart 49 = .ok (.bipush 21, 2) := by decide +kernel
theorem dX5_beginsPart_51 : decode cX5_beginsPart 51 = .ok (.if_icmp .lt 13, 3) := by decide +kernel
theorem dX5_beginsPart_54 : decode cX5_beginsPart 54 = .ok (.iload_n 1, 1) := by decide +kernel
theorem dX5_beginsPart_55 : decode cX5_beginsPart 55 = .ok (.bipush 24, 2) := by decide +kernel
theorem dX5_beginsPart_57 : decode cX5_beginsPart 57 = .ok (.if_icmp .gt 7, 3) := by decide +kernel
theorem dX5_beginsPart_60 : decode cX5_beginsPart 60 = .ok (.iconst 1, 1) := by decide +kernel
theorem dX5_beginsPart_61 : decode cX5_beginsPart 61 = .ok (.goto 4, 3) := by decide +kernel
theorem dX5_beginsPart_64 : decode cX5_beginsPart 64 = .ok (.iconst 0, 1) := by decide +kernel
theorem dX5_beginsPart_65 : decode cX5_beginsPart 65 = .ok (.ireturn, 1) := by decide +kernel
def F_X5_beginsPart_b41 (h : PH) : Option (Int32 × PH) :=
  some ((0 : Int32), h)
set_option maxRecDepth 20000 in
set_option maxHeartbeats 4000000 in
theorem T_X5_beginsPart_b41 {X : CT} (C : CX X 103 cX5_beginsPart 2 RX5 (some .boolean) 0 0) {r0 : Int32} {h0 : PH} : ∀ (h : PH), F_X5_beginsPart_b41  h = some (r0, h0) → V X (QI X r0 h0) h 41 [none, none] [] := by
  intro  h hyp
  unfold F_X5_beginsPart_b41 at hyp
  refine V_iconst (pc := 41) C dX5_beginsPart_41 (v := 0) (by decide) ?_
  cases hyp
  exact V_zret C dX5_beginsPart_42 rfl
def F_X5_beginsPart_b60 (h : PH) : Option (Int32 × PH) :=
  some ((1 : Int32), h)
set_option maxRecDepth 20000 in
set_option maxHeartbeats 4000000 in
theorem T_X5_beginsPart_b60 {X : CT} (C : CX X 103 cX5_beginsPart 2 RX5 (some .boolean) 0 0) {r0 : Int32} {h0 : PH} : ∀ (h : PH), F_X5_beginsPart_b60  h = some (r0, h0) → V X (QI X r0 h0) h 60 [none, none] [] := by
  intro  h hyp
  unfold F_X5_beginsPart_b60 at hyp
  refine V_iconst (pc := 60) C dX5_beginsPart_60 (v := 1) (by decide) ?_
  refine V_goto (pc := 61) C dX5_beginsPart_61 (tgt := 65) (by decide) ?_
  cases hyp
  exact V_zret C dX5_beginsPart_65 rfl
def F_X5_beginsPart_b64 (h : PH) : Option (Int32 × PH) :=
  some ((0 : Int32), h)
set_option maxRecDepth 20000 in
set_option maxHeartbeats 4000000 in
theorem T_X5_beginsPart_b64 {X : CT} (C : CX X 103 cX5_beginsPart 2 RX5 (some .boolean) 0 0) {r0 : Int32} {h0 : PH} : ∀ (h : PH), F_X5_beginsPart_b64  h = some (r0, h0) → V X (QI X r0 h0) h 64 [none, none] [] := by
  intro  h hyp
  unfold F_X5_beginsPart_b64 at hyp
  refine V_iconst (pc := 64) C dX5_beginsPart_64 (v := 0) (by decide) ?_
  cases hyp
  exact V_zret C dX5_beginsPart_65 rfl
def F_X5_beginsPart (a1 : Int32) (h : PH) : Option (Int32 × PH) :=
  if a1 = (2 : Int32) then
    some ((1 : Int32), h)
  else
    if a1 = (18 : Int32) then
      some ((1 : Int32), h)
    else
      if a1 = (4 : Int32) then
        some ((1 : Int32), h)
      else
        if (h.1 3 7) = 0 then
          if a1 = (3 : Int32) then
            F_X5_beginsPart_b60  h
          else
            if a1 < (21 : Int32) then
              F_X5_beginsPart_b64  h
            else
              if (24 : Int32) < a1 then
                F_X5_beginsPart_b64  h
              else
                F_X5_beginsPart_b60  h
        else
          if a1 < (25 : Int32) then
            F_X5_beginsPart_b41  h
          else
            if (34 : Int32) < a1 then
              F_X5_beginsPart_b41  h
            else
              some ((1 : Int32), h)
set_option maxRecDepth 20000 in
set_option maxHeartbeats 4000000 in
theorem M_X5_beginsPart (E : EV) {a1 : Int32} {r : Int32} {h h2 : PH} (hyp : F_X5_beginsPart a1 h = some (r, h2)) : MI E 103 yX5_beginsPart cX5_beginsPart 2 (some .boolean) 0 0 [.ref 3, .int a1] h r h2 := by
  refine MI.of 0 (by decide) rfl (fun X e1 C => ?_)
  subst e1
  replace C : CX X 103 cX5_beginsPart 2 RX5 (some .boolean) 0 0 := C
  show V X _ h 0 [some (.ref 3), some (.int a1)] []
  unfold F_X5_beginsPart at hyp
  refine V_iload_n (pc := 0) C dX5_beginsPart_0 rfl ?_
  refine V_iconst (pc := 1) C dX5_beginsPart_1 (v := 2) (by decide) ?_
  refine V_icmp_eq (pc := 2) C dX5_beginsPart_2 (tgt := 16) (by decide) (fun q1 => ?_) (fun q1 => ?_)
  · replace hyp := (if_pos q1).symm.trans hyp
    refine V_iconst (pc := 16) C dX5_beginsPart_16 (v := 1) (by decide) ?_
    cases hyp
    exact V_zret C dX5_beginsPart_17 rfl
  · replace hyp := (if_neg q1).symm.trans hyp
    refine V_iload_n (pc := 5) C dX5_beginsPart_5 rfl ?_
    refine V_bipush (pc := 6) C dX5_beginsPart_6 (v := 18) (by decide) ?_
    refine V_icmp_eq (pc := 8) C dX5_beginsPart_8 (tgt := 16) (by decide) (fun q2 => ?_) (fun q2 => ?_)
    · replace hyp := (if_pos q2).symm.trans hyp
      refine V_iconst (pc := 16) C dX5_beginsPart_16 (v := 1) (by decide) ?_
      cases hyp
      exact V_zret C dX5_beginsPart_17 rfl
    · replace hyp := (if_neg q2).symm.trans hyp
      refine V_iload_n (pc := 11) C dX5_beginsPart_11 rfl ?_
      refine V_iconst (pc := 12) C dX5_beginsPart_12 (v := 4) (by decide) ?_
      refine V_icmp_ne (pc := 13) C dX5_beginsPart_13 (tgt := 18) (by decide) (fun q3 => ?_) (fun q3 => ?_)
      · replace hyp := (if_neg q3).symm.trans hyp
        refine V_aload_n (pc := 18) C dX5_beginsPart_18 rfl ?_
        refine V_getI (pc := 19) C dX5_beginsPart_19 lf_X5_61 fk_3_7 ?_
        refine V_if_eq (pc := 22) C dX5_beginsPart_22 (tgt := 43) (by decide) (fun q4 => ?_) (fun q4 => ?_)
        · replace hyp := (if_pos q4).symm.trans hyp
          refine V_iload_n (pc := 43) C dX5_beginsPart_43 rfl ?_
          refine V_iconst (pc := 44) C dX5_beginsPart_44 (v := 3) (by decide) ?_
          refine V_icmp_eq (pc := 45) C dX5_beginsPart_45 (tgt := 60) (by decide) (fun q5 => ?_) (fun q5 => ?_)
          · replace hyp := (if_pos q5).symm.trans hyp
            refine V_weak (lv' := [none, none]) (lvle_n (lvle_n lvle_0)) ?_
            exact (T_X5_beginsPart_b60 C) h hyp
          · replace hyp := (if_neg q5).symm.trans hyp
            refine V_iload_n (pc := 48) C dX5_beginsPart_48 rfl ?_
            refine V_bipush (pc := 49) C dX5_beginsPart_49 (v := 21) (by decide) ?_
            refine V_icmp_lt (pc := 51) C dX5_beginsPart_51 (tgt := 64) (by decide) (fun q6 => ?_) (fun q6 => ?_)
            · replace hyp := (if_pos q6).symm.trans hyp
              refine V_weak (lv' := [none, none]) (lvle_n (lvle_n lvle_0)) ?_
              exact (T_X5_beginsPart_b64 C) h hyp
            · replace hyp := (if_neg q6).symm.trans hyp
              refine V_iload_n (pc := 54) C dX5_beginsPart_54 rfl ?_
              refine V_bipush (pc := 55) C dX5_beginsPart_55 (v := 24) (by decide) ?_
              refine V_icmp_gt (pc := 57) C dX5_beginsPart_57 (tgt := 64) (by decide) (fun q7 => ?_) (fun q7 => ?_)
              · replace hyp := (if_pos q7).symm.trans hyp
                refine V_weak (lv' := [none, none]) (lvle_n (lvle_n lvle_0)) ?_
                exact (T_X5_beginsPart_b64 C) h hyp
              · replace hyp := (if_neg q7).symm.trans hyp
                refine V_weak (lv' := [none, none]) (lvle_n (lvle_n lvle_0)) ?_
                exact (T_X5_beginsPart_b60 C) h hyp
        · replace hyp := (if_neg q4).symm.trans hyp
          refine V_iload_n (pc := 25) C dX5_beginsPart_25 rfl ?_
          refine V_bipush (pc := 26) C dX5_beginsPart_26 (v := 25) (by decide) ?_
          refine V_icmp_lt (pc := 28) C dX5_beginsPart_28 (tgt := 41) (by decide) (fun q8 => ?_) (fun q8 => ?_)
          · replace hyp := (if_pos q8).symm.trans hyp
            refine V_weak (lv' := [none, none]) (lvle_n (lvle_n lvle_0)) ?_
            exact (T_X5_beginsPart_b41 C) h hyp
          · replace hyp := (if_neg q8).symm.trans hyp
            refine V_iload_n (pc := 31) C dX5_beginsPart_31 rfl ?_
            refine V_bipush (pc := 32) C dX5_beginsPart_32 (v := 34) (by decide) ?_
            refine V_icmp_gt (pc := 34) C dX5_beginsPart_34 (tgt := 41) (by decide) (fun q9 => ?_) (fun q9 => ?_)
            · replace hyp := (if_pos q9).symm.trans hyp
              refine V_weak (lv' := [none, none]) (lvle_n (lvle_n lvle_0)) ?_
              exact (T_X5_beginsPart_b41 C) h hyp
            · replace hyp := (if_neg q9).symm.trans hyp
              refine V_iconst (pc := 37) C dX5_beginsPart_37 (v := 1) (by decide) ?_
              refine V_goto (pc := 38) C dX5_beginsPart_38 (tgt := 42) (by decide) ?_
              cases hyp
              exact V_zret C dX5_beginsPart_42 rfl
      · replace hyp := (if_pos q3).symm.trans hyp
        refine V_iconst (pc := 16) C dX5_beginsPart_16 (v := 1) (by decide) ?_
        cases hyp
        exact V_zret C dX5_beginsPart_17 rfl
theorem dX5_floorFact_0 : decode cX5_floorFact 0 = .ok (.aload_n 0, 1) := by decide +kernel
theorem dX5_floorFact_1 : decode cX5_floorFact 1 = .ok (.invokevirtual 71, 3) := by decide +kernel
theorem dX5_floorFact_4 : decode cX5_floorFact 4 = .ok (.aload_n 0, 1) := by decide +kernel
theorem dX5_floorFact_5 : decode cX5_floorFact 5 = .ok (.getfield 35, 3) := by decide +kernel
theorem dX5_floorFact_8 : decode cX5_floorFact 8 = .ok (.iconst 2, 1) := by decide +kernel
theorem dX5_floorFact_9 : decode cX5_floorFact 9 = .ok (.if_icmp .eq 11, 3) := by decide +kernel
theorem dX5_floorFact_12 : decode cX5_floorFact 12 = .ok (.aload_n 0, 1) := by decide +kernel
theorem dX5_floorFact_13 : decode cX5_floorFact 13 = .ok (.iconst 1, 1) := by decide +kernel
theorem dX5_floorFact_14 : decode cX5_floorFact 14 = .ok (.invokevirtual 85, 3) := by decide +kernel
theorem dX5_floorFact_17 : decode cX5_floorFact 17 = .ok (.goto 36, 3) := by decide +kernel
theorem dX5_floorFact_20 : decode cX5_floorFact 20 = .ok (.aload_n 0, 1) := by decide +kernel
theorem dX5_floorFact_21 : decode cX5_floorFact 21 = .ok (.getfield 80, 3) := by decide +kernel
theorem dX5_floorFact_24 : decode cX5_floorFact 24 = .ok (.aload_n 0, 1) := by decide +kernel
theorem dX5_floorFact_25 : decode cX5_floorFact 25 = .ok (.getfield 65, 3) := by decide +kernel
theorem dX5_floorFact_28 : decode cX5_floorFact 28 = .ok (.if_icmp .lt 11, 3) := by decide +kernel
theorem dX5_floorFact_31 : decode cX5_floorFact 31 = .ok (.aload_n 0, 1) := by decide +kernel
theorem dX5_floorFact_32 : decode cX5_floorFact 32 = .ok (.iconst 4, 1) := by decide +kernel
theorem dX5_floorFact_33 : decode cX5_floorFact 33 = .ok (.invokevirtual 85, 3) := by decide +kernel
theorem dX5_floorFact_36 : decode cX5_floorFact 36 = .ok (.goto 17, 3) := by decide +kernel
theorem dX5_floorFact_39 : decode cX5_floorFact 39 = .ok (.aload_n 0, 1) := by decide +kernel
theorem dX5_floorFact_40 : decode cX5_floorFact 40 = .ok (.getfield 12, 3) := by decide +kernel
theorem dX5_floorFact_43 : decode cX5_floorFact 43 = .ok (.iconst 3, 1) := by decide +kernel
theorem dX5_floorFact_44 : decode cX5_floorFact 44 = .ok (.iload_n 1, 1) := by decide +kernel
theorem dX5_floorFact_45 : decode cX5_floorFact 45 = .ok (.aload_n 0, 1) := by decide +kernel
theorem dX5_floorFact_46 : decode cX5_floorFact 46 = .ok (.getfield 80, 3) := by decide +kernel
theorem dX5_floorFact_49 : decode cX5_floorFact 49 = .ok (.iadd, 1) := by decide +kernel
theorem dX5_floorFact_50 : decode cX5_floorFact 50 = .ok (.invokevirtual 112, 3) := by decide +kernel
theorem dX5_floorFact_53 : decode cX5_floorFact 53 = .ok (.return_, 1) := by decide +kernel
def F_X5_floorFact (a1 : Int32) (h : PH) : Option PH :=
  bV (F_X5_advance  h) fun h2 =>
  if (h2.1 3 3) = (2 : Int32) then
    if (h2.1 3 4) < (h2.1 3 6) then
      bV (F_X2_add 4 (3 : Int32) (a1 + (h2.1 3 4)) h2) fun h6 =>
      some h6
    else
      bV (F_X5_blame (4 : Int32) h2) fun h8 =>
      some h8
  else
    bV (F_X5_blame (1 : Int32) h2) fun h10 =>
    some h10
set_option maxRecDepth 20000 in
set_option maxHeartbeats 4000000 in
theorem M_X5_floorFact (E : EV) {a1 : Int32} {h h2 : PH} (hyp : F_X5_floorFact a1 h = some h2) : MV E 103 yX5_floorFact cX5_floorFact 2 none 1 22 [.ref 3, .int a1] h h2 := by
  refine MV.of 0 (by decide) rfl (fun X e1 C => ?_)
  subst e1
  replace C : CX X 103 cX5_floorFact 2 RX5 none 1 22 := C
  show V X _ h 0 [some (.ref 3), some (.int a1)] []
  unfold F_X5_floorFact at hyp
  refine V_aload_n (pc := 0) C dX5_floorFact_0 rfl ?_
  obtain ⟨h2, eh2, hyp⟩ := bV_n hyp
  refine V_callV (pc := 1) C dX5_floorFact_1 lm_X5_71 mk_X5_advance ok_3 rfl (M_X5_advance _ eh2) rfl pd_X5_advance (by decide) (by decide) (by decide) (As := []) (rest := []) rfl (Nat.le_of_ble_eq_true rfl) ?_
  refine V_aload_n (pc := 4) C dX5_floorFact_4 rfl ?_
  refine V_getI (pc := 5) C dX5_floorFact_5 lf_X5_35 fk_3_3 ?_
  refine V_iconst (pc := 8) C dX5_floorFact_8 (v := 2) (by decide) ?_
  refine V_icmp_eq (pc := 9) C dX5_floorFact_9 (tgt := 20) (by decide) (fun q3 => ?_) (fun q3 => ?_)
  · replace hyp := (if_pos q3).symm.trans hyp
    refine V_aload_n (pc := 20) C dX5_floorFact_20 rfl ?_
    refine V_getI (pc := 21) C dX5_floorFact_21 lf_X5_80 fk_3_4 ?_
    refine V_aload_n (pc := 24) C dX5_floorFact_24 rfl ?_
    refine V_getI (pc := 25) C dX5_floorFact_25 lf_X5_65 fk_3_6 ?_
    refine V_icmp_lt (pc := 28) C dX5_floorFact_28 (tgt := 39) (by decide) (fun q4 => ?_) (fun q4 => ?_)
    · replace hyp := (if_pos q4).symm.trans hyp
      refine V_aload_n (pc := 39) C dX5_floorFact_39 rfl ?_
      refine V_getR (pc := 40) C dX5_floorFact_40 lf_X5_12 fk_3_0 ?_
      refine V_iconst (pc := 43) C dX5_floorFact_43 (v := 3) (by decide) ?_
      refine V_iload_n (pc := 44) C dX5_floorFact_44 rfl ?_
      refine V_aload_n (pc := 45) C dX5_floorFact_45 rfl ?_
      refine V_getI (pc := 46) C dX5_floorFact_46 lf_X5_80 fk_3_4 ?_
      refine V_iadd (pc := 49) C dX5_floorFact_49 ?_
      obtain ⟨h6, eh6, hyp⟩ := bV_n hyp
      refine V_callV (pc := 50) C dX5_floorFact_50 lm_X5_112 mk_X2_add ok_4 rfl (M_X2_add _ isC_4 eh6) rfl pd_X2_add (by decide) (by decide) (by decide) (As := [.int (3 : Int32), .int (a1 + (h2.1 3 4))]) (rest := []) rfl (Nat.le_of_ble_eq_true rfl) ?_
      cases hyp
      exact V_vret C dX5_floorFact_53
    · replace hyp := (if_neg q4).symm.trans hyp
      refine V_aload_n (pc := 31) C dX5_floorFact_31 rfl ?_
      refine V_iconst (pc := 32) C dX5_floorFact_32 (v := 4) (by decide) ?_
      obtain ⟨h8, eh8, hyp⟩ := bV_n hyp
      refine V_callV (pc := 33) C dX5_floorFact_33 lm_X5_85 mk_X5_blame ok_3 rfl (M_X5_blame _ eh8) rfl pd_X5_blame (by decide) (by decide) (by decide) (As := [.int (4 : Int32)]) (rest := []) rfl (Nat.le_of_ble_eq_true rfl) ?_
      refine V_goto (pc := 36) C dX5_floorFact_36 (tgt := 53) (by decide) ?_
      cases hyp
      exact V_vret C dX5_floorFact_53
  · replace hyp := (if_neg q3).symm.trans hyp
    refine V_aload_n (pc := 12) C dX5_floorFact_12 rfl ?_
    refine V_iconst (pc := 13) C dX5_floorFact_13 (v := 1) (by decide) ?_
    obtain ⟨h10, eh10, hyp⟩ := bV_n hyp
    refine V_callV (pc := 14) C dX5_floorFact_14 lm_X5_85 mk_X5_blame ok_3 rfl (M_X5_blame _ eh10) rfl pd_X5_blame (by decide) (by decide) (by decide) (As := [.int (1 : Int32)]) (rest := []) rfl (Nat.le_of_ble_eq_true rfl) ?_
    refine V_goto (pc := 17) C dX5_floorFact_17 (tgt := 53) (by decide) ?_
    cases hyp
    exact V_vret C dX5_floorFact_53
theorem dX5_fact_0 : decode cX5_fact 0 = .ok (.iload_n 1, 1) := by decide +kernel
theorem dX5_fact_1 : decode cX5_fact 1 = .ok (.lookupswitch 110 #[(3, 51), (21, 66), (22, 75), (23, 84), (24, 97)], 51) := by decide +kernel
theorem dX5_fact_52 : decode cX5_fact 52 = .ok (.aload_n 0, 1) := by decide +kernel
theorem dX5_fact_53 : decode cX5_fact 53 = .ok (.getfield 12, 3) := by decide +kernel
theorem dX5_fact_56 : decode cX5_fact 56 = .ok (.iconst 3, 1) := by decide +kernel
theorem dX5_fact_57 : decode cX5_fact 57 = .ok (.aload_n 0, 1) := by decide +kernel
theorem dX5_fact_58 : decode cX5_fact 58 = .ok (.getfield 80, 3) := by decide +kernel
theorem dX5_fact_61 : decode cX5_fact 61 = .ok (.invokevirtual 112, 3) := by decide +kernel
theorem dX5_fact_64 : decode cX5_fact 64 = .ok (.goto 60, 3) := by decide +kernel
theorem dX5_fact_67 : decode cX5_fact 67 = .ok (.aload_n 0, 1) := by decide +kernel
theorem dX5_fact_68 : decode cX5_fact 68 = .ok (.bipush 8, 2) := by decide +kernel
theorem dX5_fact_70 : decode cX5_fact 70 = .ok (.invokevirtual 121, 3) := by decide +kernel
theorem dX5_fact_73 : decode cX5_fact 73 = .ok (.goto 51, 3) := by decide +kernel
theorem dX5_fact_76 : decode cX5_fact 76 = .ok (.aload_n 0, 1) := by decide +kernel
theorem dX5_fact_77 : decode cX5_fact 77 = .ok (.bipush 14, 2) := by decide +kernel
theorem dX5_fact_79 : decode cX5_fact 79 = .ok (.invokevirtual 121, 3) := by decide +kernel
theorem dX5_fact_82 : decode cX5_fact 82 = .ok (.goto 42, 3) := by decide +kernel
theorem dX5_fact_85 : decode cX5_fact 85 = .ok (.aload_n 0, 1) := by decide +kernel
theorem dX5_fact_86 : decode cX5_fact 86 = .ok (.getfield 12, 3) := by decide +kernel
theorem dX5_fact_89 : decode cX5_fact 89 = .ok (.iconst 3, 1) := by decide +kernel
theorem dX5_fact_90 : decode cX5_fact 90 = .ok (.bipush 20, 2) := by decide +kernel
theorem dX5_fact_92 : decode cX5_fact 92 = .ok (.invokevirtual 112, 3) := by decide +kernel
theorem dX5_fact_95 : decode cX5_fact 95 = .ok (.goto 29, 3) := by decide +kernel
theorem dX5_fact_98 : decode cX5_fact 98 = .ok (.aload_n 0, 1) := by decide +kernel
theorem dX5_fact_99 : decode cX5_fact 99 = .ok (.getfield 12, 3) := by decide +kernel
theorem dX5_fact_102 : decode cX5_fact 102 = .ok (.iconst 3, 1) := by decide +kernel
theorem dX5_fact_103 : decode cX5_fact 103 = .ok (.bipush 21, 2) := by decide +kernel
theorem dX5_fact_105 : decode cX5_fact 105 = .ok (.invokevirtual 112, 3) := by decide +kernel
theorem dX5_fact_108 : decode cX5_fact 108 = .ok (.goto 16, 3) := by decide +kernel
theorem dX5_fact_111 : decode cX5_fact 111 = .ok (.aload_n 0, 1) := by decide +kernel
theorem dX5_fact_112 : decode cX5_fact 112 = .ok (.getfield 12, 3) := by decide +kernel
theorem dX5_fact_115 : decode cX5_fact 115 = .ok (.bipush 25, 2) := by decide +kernel
theorem dX5_fact_117 : decode cX5_fact 117 = .ok (.iload_n 1, 1) := by decide +kernel
theorem dX5_fact_118 : decode cX5_fact 118 = .ok (.bipush 25, 2) := by decide +kernel
theorem dX5_fact_120 : decode cX5_fact 120 = .ok (.isub, 1) := by decide +kernel
theorem dX5_fact_121 : decode cX5_fact 121 = .ok (.invokevirtual 112, 3) := by decide +kernel
theorem dX5_fact_124 : decode cX5_fact 124 = .ok (.aload_n 0, 1) := by decide +kernel
theorem dX5_fact_125 : decode cX5_fact 125 = .ok (.getfield 31, 3) := by decide +kernel
theorem dX5_fact_128 : decode cX5_fact 128 = .ok (.ifCond .ne 7, 3) := by decide +kernel
theorem dX5_fact_131 : decode cX5_fact 131 = .ok (.aload_n 0, 1) := by decide +kernel
theorem dX5_fact_132 : decode cX5_fact 132 = .ok (.invokevirtual 71, 3) := by decide +kernel
theorem dX5_fact_135 : decode cX5_fact 135 = .ok (.return_, 1) := by decide +kernel
def F_X5_fact_b124 (h : PH) : Option PH :=
  if (h.1 3 5) = 0 then
    bV (F_X5_advance  h) fun h3 =>
    some h3
  else
    some h
set_option maxRecDepth 20000 in
set_option maxHeartbeats 4000000 in
theorem T_X5_fact_b124 {X : CT} (C : CX X 103 cX5_fact 2 RX5 none 2 43) {h0 : PH} : ∀ (h : PH), F_X5_fact_b124  h = some h0 → V X (QV X h0) h 124 [some (.ref 3), none] [] := by
  intro  h hyp
  unfold F_X5_fact_b124 at hyp
  refine V_aload_n (pc := 124) C dX5_fact_124 rfl ?_
  refine V_getI (pc := 125) C dX5_fact_125 lf_X5_31 fk_3_5 ?_
  refine V_if_ne (pc := 128) C dX5_fact_128 (tgt := 135) (by decide) (fun q1 => ?_) (fun q1 => ?_)
  · replace hyp := (if_neg q1).symm.trans hyp
    cases hyp
    exact V_vret C dX5_fact_135
  · replace hyp := (if_pos q1).symm.trans hyp
    refine V_aload_n (pc := 131) C dX5_fact_131 rfl ?_
    obtain ⟨h3, eh3, hyp⟩ := bV_n hyp
    refine V_callV (pc := 132) C dX5_fact_132 lm_X5_71 mk_X5_advance ok_3 rfl (M_X5_advance _ eh3) rfl pd_X5_advance (by decide) (by decide) (by decide) (As := []) (rest := []) rfl (Nat.le_of_ble_eq_true rfl) ?_
    cases hyp
    exact V_vret C dX5_fact_135
def F_X5_fact (a1 : Int32) (h : PH) : Option PH :=
  if a1 = (3 : Int32) then
    bV (F_X2_add 4 (3 : Int32) (h.1 3 4) h) fun h3 =>
    F_X5_fact_b124  h3
  else
  if a1 = (21 : Int32) then
    bV (F_X5_floorFact (8 : Int32) h) fun h6 =>
    F_X5_fact_b124  h6
  else
  if a1 = (22 : Int32) then
    bV (F_X5_floorFact (14 : Int32) h) fun h9 =>
    F_X5_fact_b124  h9
  else
  if a1 = (23 : Int32) then
    bV (F_X2_add 4 (3 : Int32) (20 : Int32) h) fun h12 =>
    F_X5_fact_b124  h12
  else
  if a1 = (24 : Int32) then
    bV (F_X2_add 4 (3 : Int32) (21 : Int32) h) fun h15 =>
    F_X5_fact_b124  h15
  else
  bV (F_X2_add 4 (25 : Int32) (a1 - (25 : Int32)) h) fun h17 =>
  F_X5_fact_b124  h17
set_option maxRecDepth 20000 in
set_option maxHeartbeats 4000000 in
theorem M_X5_fact (E : EV) {a1 : Int32} {h h2 : PH} (hyp : F_X5_fact a1 h = some h2) : MV E 103 yX5_fact cX5_fact 2 none 2 43 [.ref 3, .int a1] h h2 := by
  refine MV.of 0 (by decide) rfl (fun X e1 C => ?_)
  subst e1
  replace C : CX X 103 cX5_fact 2 RX5 none 2 43 := C
  show V X _ h 0 [some (.ref 3), some (.int a1)] []
  unfold F_X5_fact at hyp
  refine V_iload_n (pc := 0) C dX5_fact_0 rfl ?_
  by_cases q1 : a1 = (3 : Int32)
  · replace hyp := (if_pos q1).symm.trans hyp
    refine V_lookup (pc := 1) C dX5_fact_1 (off := 51) (tgt := 52) (by decide) (by rw [q1]; decide) (by decide) ?_
    refine V_aload_n (pc := 52) C dX5_fact_52 rfl ?_
    refine V_getR (pc := 53) C dX5_fact_53 lf_X5_12 fk_3_0 ?_
    refine V_iconst (pc := 56) C dX5_fact_56 (v := 3) (by decide) ?_
    refine V_aload_n (pc := 57) C dX5_fact_57 rfl ?_
    refine V_getI (pc := 58) C dX5_fact_58 lf_X5_80 fk_3_4 ?_
    obtain ⟨h3, eh3, hyp⟩ := bV_n hyp
    refine V_callV (pc := 61) C dX5_fact_61 lm_X5_112 mk_X2_add ok_4 rfl (M_X2_add _ isC_4 eh3) rfl pd_X2_add (by decide) (by decide) (by decide) (As := [.int (3 : Int32), .int (h.1 3 4)]) (rest := []) rfl (Nat.le_of_ble_eq_true rfl) ?_
    refine V_goto (pc := 64) C dX5_fact_64 (tgt := 124) (by decide) ?_
    refine V_weak (lv' := [some (.ref 3), none]) (lvle_s (lvle_n lvle_0)) ?_
    exact (T_X5_fact_b124 C) h3 hyp
  · replace hyp := (if_neg q1).symm.trans hyp
    by_cases q4 : a1 = (21 : Int32)
    · replace hyp := (if_pos q4).symm.trans hyp
      refine V_lookup (pc := 1) C dX5_fact_1 (off := 66) (tgt := 67) (by decide) (by rw [q4]; decide) (by decide) ?_
      refine V_aload_n (pc := 67) C dX5_fact_67 rfl ?_
      refine V_bipush (pc := 68) C dX5_fact_68 (v := 8) (by decide) ?_
      obtain ⟨h6, eh6, hyp⟩ := bV_n hyp
      refine V_callV (pc := 70) C dX5_fact_70 lm_X5_121 mk_X5_floorFact ok_3 rfl (M_X5_floorFact _ eh6) rfl pd_X5_floorFact (by decide) (by decide) (by decide) (As := [.int (8 : Int32)]) (rest := []) rfl (Nat.le_of_ble_eq_true rfl) ?_
      refine V_goto (pc := 73) C dX5_fact_73 (tgt := 124) (by decide) ?_
      refine V_weak (lv' := [some (.ref 3), none]) (lvle_s (lvle_n lvle_0)) ?_
      exact (T_X5_fact_b124 C) h6 hyp
    · replace hyp := (if_neg q4).symm.trans hyp
      by_cases q7 : a1 = (22 : Int32)
      · replace hyp := (if_pos q7).symm.trans hyp
        refine V_lookup (pc := 1) C dX5_fact_1 (off := 75) (tgt := 76) (by decide) (by rw [q7]; decide) (by decide) ?_
        refine V_aload_n (pc := 76) C dX5_fact_76 rfl ?_
        refine V_bipush (pc := 77) C dX5_fact_77 (v := 14) (by decide) ?_
        obtain ⟨h9, eh9, hyp⟩ := bV_n hyp
        refine V_callV (pc := 79) C dX5_fact_79 lm_X5_121 mk_X5_floorFact ok_3 rfl (M_X5_floorFact _ eh9) rfl pd_X5_floorFact (by decide) (by decide) (by decide) (As := [.int (14 : Int32)]) (rest := []) rfl (Nat.le_of_ble_eq_true rfl) ?_
        refine V_goto (pc := 82) C dX5_fact_82 (tgt := 124) (by decide) ?_
        refine V_weak (lv' := [some (.ref 3), none]) (lvle_s (lvle_n lvle_0)) ?_
        exact (T_X5_fact_b124 C) h9 hyp
      · replace hyp := (if_neg q7).symm.trans hyp
        by_cases q10 : a1 = (23 : Int32)
        · replace hyp := (if_pos q10).symm.trans hyp
          refine V_lookup (pc := 1) C dX5_fact_1 (off := 84) (tgt := 85) (by decide) (by rw [q10]; decide) (by decide) ?_
          refine V_aload_n (pc := 85) C dX5_fact_85 rfl ?_
          refine V_getR (pc := 86) C dX5_fact_86 lf_X5_12 fk_3_0 ?_
          refine V_iconst (pc := 89) C dX5_fact_89 (v := 3) (by decide) ?_
          refine V_bipush (pc := 90) C dX5_fact_90 (v := 20) (by decide) ?_
          obtain ⟨h12, eh12, hyp⟩ := bV_n hyp
          refine V_callV (pc := 92) C dX5_fact_92 lm_X5_112 mk_X2_add ok_4 rfl (M_X2_add _ isC_4 eh12) rfl pd_X2_add (by decide) (by decide) (by decide) (As := [.int (3 : Int32), .int (20 : Int32)]) (rest := []) rfl (Nat.le_of_ble_eq_true rfl) ?_
          refine V_goto (pc := 95) C dX5_fact_95 (tgt := 124) (by decide) ?_
          refine V_weak (lv' := [some (.ref 3), none]) (lvle_s (lvle_n lvle_0)) ?_
          exact (T_X5_fact_b124 C) h12 hyp
        · replace hyp := (if_neg q10).symm.trans hyp
          by_cases q13 : a1 = (24 : Int32)
          · replace hyp := (if_pos q13).symm.trans hyp
            refine V_lookup (pc := 1) C dX5_fact_1 (off := 97) (tgt := 98) (by decide) (by rw [q13]; decide) (by decide) ?_
            refine V_aload_n (pc := 98) C dX5_fact_98 rfl ?_
            refine V_getR (pc := 99) C dX5_fact_99 lf_X5_12 fk_3_0 ?_
            refine V_iconst (pc := 102) C dX5_fact_102 (v := 3) (by decide) ?_
            refine V_bipush (pc := 103) C dX5_fact_103 (v := 21) (by decide) ?_
            obtain ⟨h15, eh15, hyp⟩ := bV_n hyp
            refine V_callV (pc := 105) C dX5_fact_105 lm_X5_112 mk_X2_add ok_4 rfl (M_X2_add _ isC_4 eh15) rfl pd_X2_add (by decide) (by decide) (by decide) (As := [.int (3 : Int32), .int (21 : Int32)]) (rest := []) rfl (Nat.le_of_ble_eq_true rfl) ?_
            refine V_goto (pc := 108) C dX5_fact_108 (tgt := 124) (by decide) ?_
            refine V_weak (lv' := [some (.ref 3), none]) (lvle_s (lvle_n lvle_0)) ?_
            exact (T_X5_fact_b124 C) h15 hyp
          · replace hyp := (if_neg q13).symm.trans hyp
            refine V_lookup (pc := 1) C dX5_fact_1 (off := 110) (tgt := 111) (by decide) (lk_out (by decide) (by intro q hq; simp only [List.mem_cons, List.not_mem_nil, or_false] at hq; rcases hq with rfl | rfl | rfl | rfl | rfl <;> assumption)) (by decide) ?_
            refine V_aload_n (pc := 111) C dX5_fact_111 rfl ?_
            refine V_getR (pc := 112) C dX5_fact_112 lf_X5_12 fk_3_0 ?_
            refine V_bipush (pc := 115) C dX5_fact_115 (v := 25) (by decide) ?_
            refine V_iload_n (pc := 117) C dX5_fact_117 rfl ?_
            refine V_bipush (pc := 118) C dX5_fact_118 (v := 25) (by decide) ?_
            refine V_isub (pc := 120) C dX5_fact_120 ?_
            obtain ⟨h17, eh17, hyp⟩ := bV_n hyp
            refine V_callV (pc := 121) C dX5_fact_121 lm_X5_112 mk_X2_add ok_4 rfl (M_X2_add _ isC_4 eh17) rfl pd_X2_add (by decide) (by decide) (by decide) (As := [.int (25 : Int32), .int (a1 - (25 : Int32))]) (rest := []) rfl (Nat.le_of_ble_eq_true rfl) ?_
            refine V_weak (lv' := [some (.ref 3), none]) (lvle_s (lvle_n lvle_0)) ?_
            exact (T_X5_fact_b124 C) h17 hyp
theorem dX5_levelOf_0 : decode cX5_levelOf 0 = .ok (.iload_n 0, 1) := by decide +kernel
theorem dX5_levelOf_1 : decode cX5_levelOf 1 = .ok (.tableswitch 83 6 20 #[77, 77, 79, 79, 81, 83, 83, 83, 83, 83, 83, 83, 83, 75, 75], 75) := by decide +kernel
theorem dX5_levelOf_76 : decode cX5_levelOf 76 = .ok (.iconst 0, 1) := by decide +kernel
theorem dX5_levelOf_77 : decode cX5_levelOf 77 = .ok (.ireturn, 1) := by decide +kernel
theorem dX5_levelOf_78 : decode cX5_levelOf 78 = .ok (.iconst 1, 1) := by decide +kernel
theorem dX5_levelOf_79 : decode cX5_levelOf 79 = .ok (.ireturn, 1) := by decide +kernel
theorem dX5_levelOf_80 : decode cX5_levelOf 80 = .ok (.iconst 2, 1) := by decide +kernel
theorem dX5_levelOf_81 : decode cX5_levelOf 81 = .ok (.ireturn, 1) := by decide +kernel
theorem dX5_levelOf_82 : decode cX5_levelOf 82 = .ok (.iconst 3, 1) := by decide +kernel
theorem dX5_levelOf_83 : decode cX5_levelOf 83 = .ok (.ireturn, 1) := by decide +kernel
theorem dX5_levelOf_84 : decode cX5_levelOf 84 = .ok (.iconst (-1), 1) := by decide +kernel
theorem dX5_levelOf_85 : decode cX5_levelOf 85 = .ok (.ireturn, 1) := by decide +kernel
def F_X5_levelOf (a1 : Int32) (h : PH) : Option (Int32 × PH) :=
  if a1 = (6 : Int32) then
    some ((1 : Int32), h)
  else
  if a1 = (7 : Int32) then
    some ((1 : Int32), h)
  else
  if a1 = (8 : Int32) then
    some ((2 : Int32), h)
  else
  if a1 = (9 : Int32) then
    some ((2 : Int32), h)
  else
  if a1 = (10 : Int32) then
    some ((3 : Int32), h)
  else
  if a1 = (11 : Int32) then
    some ((-1 : Int32), h)
  else
  if a1 = (12 : Int32) then
    some ((-1 : Int32), h)
  else
  if a1 = (13 : Int32) then
    some ((-1 : Int32), h)
  else
  if a1 = (14 : Int32) then
    some ((-1 : Int32), h)
  else
  if a1 = (15 : Int32) then
    some ((-1 : Int32), h)
  else
  if a1 = (16 : Int32) then
    some ((-1 : Int32), h)
  else
  if a1 = (17 : Int32) then
    some ((-1 : Int32), h)
  else
  if a1 = (18 : Int32) then
    some ((-1 : Int32), h)
  else
  if a1 = (19 : Int32) then
    some ((0 : Int32), h)
  else
  if a1 = (20 : Int32) then
    some ((0 : Int32), h)
  else
  some ((-1 : Int32), h)
set_option maxRecDepth 20000 in
set_option maxHeartbeats 4000000 in
theorem M_X5_levelOf (E : EV) {a1 : Int32} {r : Int32} {h h2 : PH} (hyp : F_X5_levelOf a1 h = some (r, h2)) : MI E 103 yX5_levelOf cX5_levelOf 1 (some .int) 0 0 [.int a1] h r h2 := by
  refine MI.of 0 (by decide) rfl (fun X e1 C => ?_)
  subst e1
  replace C : CX X 103 cX5_levelOf 1 RX5 (some .int) 0 0 := C
  show V X _ h 0 [some (.int a1)] []
  unfold F_X5_levelOf at hyp
  refine V_iload_n (pc := 0) C dX5_levelOf_0 rfl ?_
  by_cases q1 : a1 = (6 : Int32)
  · replace hyp := (if_pos q1).symm.trans hyp
    refine V_tsIn (pc := 1) C (6 : Int32) dX5_levelOf_1 (off := 77) (tgt := 78) q1 (by decide) (by decide) rfl (by decide) ?_
    refine V_iconst (pc := 78) C dX5_levelOf_78 (v := 1) (by decide) ?_
    cases hyp
    exact V_iret C dX5_levelOf_79
  · replace hyp := (if_neg q1).symm.trans hyp
    by_cases q2 : a1 = (7 : Int32)
    · replace hyp := (if_pos q2).symm.trans hyp
      refine V_tsIn (pc := 1) C (7 : Int32) dX5_levelOf_1 (off := 77) (tgt := 78) q2 (by decide) (by decide) rfl (by decide) ?_
      refine V_iconst (pc := 78) C dX5_levelOf_78 (v := 1) (by decide) ?_
      cases hyp
      exact V_iret C dX5_levelOf_79
    · replace hyp := (if_neg q2).symm.trans hyp
      by_cases q3 : a1 = (8 : Int32)
      · replace hyp := (if_pos q3).symm.trans hyp
        refine V_tsIn (pc := 1) C (8 : Int32) dX5_levelOf_1 (off := 79) (tgt := 80) q3 (by decide) (by decide) rfl (by decide) ?_
        refine V_iconst (pc := 80) C dX5_levelOf_80 (v := 2) (by decide) ?_
        cases hyp
        exact V_iret C dX5_levelOf_81
      · replace hyp := (if_neg q3).symm.trans hyp
        by_cases q4 : a1 = (9 : Int32)
        · replace hyp := (if_pos q4).symm.trans hyp
          refine V_tsIn (pc := 1) C (9 : Int32) dX5_levelOf_1 (off := 79) (tgt := 80) q4 (by decide) (by decide) rfl (by decide) ?_
          refine V_iconst (pc := 80) C dX5_levelOf_80 (v := 2) (by decide) ?_
          cases hyp
          exact V_iret C dX5_levelOf_81
        · replace hyp := (if_neg q4).symm.trans hyp
          by_cases q5 : a1 = (10 : Int32)
          · replace hyp := (if_pos q5).symm.trans hyp
            refine V_tsIn (pc := 1) C (10 : Int32) dX5_levelOf_1 (off := 81) (tgt := 82) q5 (by decide) (by decide) rfl (by decide) ?_
            refine V_iconst (pc := 82) C dX5_levelOf_82 (v := 3) (by decide) ?_
            cases hyp
            exact V_iret C dX5_levelOf_83
          · replace hyp := (if_neg q5).symm.trans hyp
            by_cases q6 : a1 = (11 : Int32)
            · replace hyp := (if_pos q6).symm.trans hyp
              refine V_tsIn (pc := 1) C (11 : Int32) dX5_levelOf_1 (off := 83) (tgt := 84) q6 (by decide) (by decide) rfl (by decide) ?_
              refine V_iconst (pc := 84) C dX5_levelOf_84 (v := -1) (by decide) ?_
              cases hyp
              exact V_iret C dX5_levelOf_85
            · replace hyp := (if_neg q6).symm.trans hyp
              by_cases q7 : a1 = (12 : Int32)
              · replace hyp := (if_pos q7).symm.trans hyp
                refine V_tsIn (pc := 1) C (12 : Int32) dX5_levelOf_1 (off := 83) (tgt := 84) q7 (by decide) (by decide) rfl (by decide) ?_
                refine V_iconst (pc := 84) C dX5_levelOf_84 (v := -1) (by decide) ?_
                cases hyp
                exact V_iret C dX5_levelOf_85
              · replace hyp := (if_neg q7).symm.trans hyp
                by_cases q8 : a1 = (13 : Int32)
                · replace hyp := (if_pos q8).symm.trans hyp
                  refine V_tsIn (pc := 1) C (13 : Int32) dX5_levelOf_1 (off := 83) (tgt := 84) q8 (by decide) (by decide) rfl (by decide) ?_
                  refine V_iconst (pc := 84) C dX5_levelOf_84 (v := -1) (by decide) ?_
                  cases hyp
                  exact V_iret C dX5_levelOf_85
                · replace hyp := (if_neg q8).symm.trans hyp
                  by_cases q9 : a1 = (14 : Int32)
                  · replace hyp := (if_pos q9).symm.trans hyp
                    refine V_tsIn (pc := 1) C (14 : Int32) dX5_levelOf_1 (off := 83) (tgt := 84) q9 (by decide) (by decide) rfl (by decide) ?_
                    refine V_iconst (pc := 84) C dX5_levelOf_84 (v := -1) (by decide) ?_
                    cases hyp
                    exact V_iret C dX5_levelOf_85
                  · replace hyp := (if_neg q9).symm.trans hyp
                    by_cases q10 : a1 = (15 : Int32)
                    · replace hyp := (if_pos q10).symm.trans hyp
                      refine V_tsIn (pc := 1) C (15 : Int32) dX5_levelOf_1 (off := 83) (tgt := 84) q10 (by decide) (by decide) rfl (by decide) ?_
                      refine V_iconst (pc := 84) C dX5_levelOf_84 (v := -1) (by decide) ?_
                      cases hyp
                      exact V_iret C dX5_levelOf_85
                    · replace hyp := (if_neg q10).symm.trans hyp
                      by_cases q11 : a1 = (16 : Int32)
                      · replace hyp := (if_pos q11).symm.trans hyp
                        refine V_tsIn (pc := 1) C (16 : Int32) dX5_levelOf_1 (off := 83) (tgt := 84) q11 (by decide) (by decide) rfl (by decide) ?_
                        refine V_iconst (pc := 84) C dX5_levelOf_84 (v := -1) (by decide) ?_
                        cases hyp
                        exact V_iret C dX5_levelOf_85
                      · replace hyp := (if_neg q11).symm.trans hyp
                        by_cases q12 : a1 = (17 : Int32)
                        · replace hyp := (if_pos q12).symm.trans hyp
                          refine V_tsIn (pc := 1) C (17 : Int32) dX5_levelOf_1 (off := 83) (tgt := 84) q12 (by decide) (by decide) rfl (by decide) ?_
                          refine V_iconst (pc := 84) C dX5_levelOf_84 (v := -1) (by decide) ?_
                          cases hyp
                          exact V_iret C dX5_levelOf_85
                        · replace hyp := (if_neg q12).symm.trans hyp
                          by_cases q13 : a1 = (18 : Int32)
                          · replace hyp := (if_pos q13).symm.trans hyp
                            refine V_tsIn (pc := 1) C (18 : Int32) dX5_levelOf_1 (off := 83) (tgt := 84) q13 (by decide) (by decide) rfl (by decide) ?_
                            refine V_iconst (pc := 84) C dX5_levelOf_84 (v := -1) (by decide) ?_
                            cases hyp
                            exact V_iret C dX5_levelOf_85
                          · replace hyp := (if_neg q13).symm.trans hyp
                            by_cases q14 : a1 = (19 : Int32)
                            · replace hyp := (if_pos q14).symm.trans hyp
                              refine V_tsIn (pc := 1) C (19 : Int32) dX5_levelOf_1 (off := 75) (tgt := 76) q14 (by decide) (by decide) rfl (by decide) ?_
                              refine V_iconst (pc := 76) C dX5_levelOf_76 (v := 0) (by decide) ?_
                              cases hyp
                              exact V_iret C dX5_levelOf_77
                            · replace hyp := (if_neg q14).symm.trans hyp
                              by_cases q15 : a1 = (20 : Int32)
                              · replace hyp := (if_pos q15).symm.trans hyp
                                refine V_tsIn (pc := 1) C (20 : Int32) dX5_levelOf_1 (off := 75) (tgt := 76) q15 (by decide) (by decide) rfl (by decide) ?_
                                refine V_iconst (pc := 76) C dX5_levelOf_76 (v := 0) (by decide) ?_
                                cases hyp
                                exact V_iret C dX5_levelOf_77
                              · replace hyp := (if_neg q15).symm.trans hyp
                                refine V_tsOut (pc := 1) C dX5_levelOf_1 (tgt := 84) (fun k k1 k2 => ?_) (by decide) ?_
                                · rcases (show k = 6 ∨ k = 7 ∨ k = 8 ∨ k = 9 ∨ k = 10 ∨ k = 11 ∨ k = 12 ∨ k = 13 ∨ k = 14 ∨ k = 15 ∨ k = 16 ∨ k = 17 ∨ k = 18 ∨ k = 19 ∨ k = 20 by omega) with rfl | rfl | rfl | rfl | rfl | rfl | rfl | rfl | rfl | rfl | rfl | rfl | rfl | rfl | rfl
                                  · exact q1
                                  · exact q2
                                  · exact q3
                                  · exact q4
                                  · exact q5
                                  · exact q6
                                  · exact q7
                                  · exact q8
                                  · exact q9
                                  · exact q10
                                  · exact q11
                                  · exact q12
                                  · exact q13
                                  · exact q14
                                  · exact q15
                                · refine V_iconst (pc := 84) C dX5_levelOf_84 (v := -1) (by decide) ?_
                                  cases hyp
                                  exact V_iret C dX5_levelOf_85
