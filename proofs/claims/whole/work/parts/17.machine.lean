theorem dX11_floorOf_0 : decode cX11_floorOf 0 = .ok (.iload_n 0, 1) := by decide +kernel
theorem dX11_floorOf_1 : decode cX11_floorOf 1 = .ok (.bipush 8, 2) := by decide +kernel
theorem dX11_floorOf_3 : decode cX11_floorOf 3 = .ok (.ishr, 1) := by decide +kernel
theorem dX11_floorOf_4 : decode cX11_floorOf 4 = .ok (.bipush 7, 2) := by decide +kernel
theorem dX11_floorOf_6 : decode cX11_floorOf 6 = .ok (.iand, 1) := by decide +kernel
theorem dX11_floorOf_7 : decode cX11_floorOf 7 = .ok (.ireturn, 1) := by decide +kernel
def F_X11_floorOf (a1 : Int32) (h : PH) : Option (Int32 × PH) :=
  some ((a1 >>> ((8 : Int32) &&& 31)) &&& (7 : Int32), h)
set_option maxRecDepth 20000 in
set_option maxHeartbeats 4000000 in
theorem M_X11_floorOf (E : EV) {a1 : Int32} {r : Int32} {h h2 : PH} (hyp : F_X11_floorOf a1 h = some (r, h2)) : MI E 103 yX11_floorOf cX11_floorOf 1 (some .int) 0 0 [.int a1] h r h2 := by
  refine MI.of 0 (by decide) rfl (fun X e1 C => ?_)
  subst e1
  replace C : CX X 103 cX11_floorOf 1 RX11 (some .int) 0 0 := C
  show V X _ h 0 [some (.int a1)] []
  unfold F_X11_floorOf at hyp
  refine V_iload_n (pc := 0) C dX11_floorOf_0 rfl ?_
  refine V_bipush (pc := 1) C dX11_floorOf_1 (v := 8) (by decide) ?_
  refine V_ishr (pc := 3) C dX11_floorOf_3 ?_
  refine V_bipush (pc := 4) C dX11_floorOf_4 (v := 7) (by decide) ?_
  refine V_iand (pc := 6) C dX11_floorOf_6 ?_
  cases hyp
  exact V_iret C dX11_floorOf_7
theorem dX11_doorOf_0 : decode cX11_doorOf 0 = .ok (.iload_n 0, 1) := by decide +kernel
theorem dX11_doorOf_1 : decode cX11_doorOf 1 = .ok (.sipush 2048, 3) := by decide +kernel
theorem dX11_doorOf_4 : decode cX11_doorOf 4 = .ok (.iand, 1) := by decide +kernel
theorem dX11_doorOf_5 : decode cX11_doorOf 5 = .ok (.ifCond .eq 7, 3) := by decide +kernel
theorem dX11_doorOf_8 : decode cX11_doorOf 8 = .ok (.iconst 1, 1) := by decide +kernel
theorem dX11_doorOf_9 : decode cX11_doorOf 9 = .ok (.goto 4, 3) := by decide +kernel
theorem dX11_doorOf_12 : decode cX11_doorOf 12 = .ok (.iconst 0, 1) := by decide +kernel
theorem dX11_doorOf_13 : decode cX11_doorOf 13 = .ok (.ireturn, 1) := by decide +kernel
def F_X11_doorOf (a1 : Int32) (h : PH) : Option (Int32 × PH) :=
  if (a1 &&& (2048 : Int32)) = 0 then
    some ((0 : Int32), h)
  else
    some ((1 : Int32), h)
set_option maxRecDepth 20000 in
set_option maxHeartbeats 4000000 in
theorem M_X11_doorOf (E : EV) {a1 : Int32} {r : Int32} {h h2 : PH} (hyp : F_X11_doorOf a1 h = some (r, h2)) : MI E 103 yX11_doorOf cX11_doorOf 1 (some .int) 0 0 [.int a1] h r h2 := by
  refine MI.of 0 (by decide) rfl (fun X e1 C => ?_)
  subst e1
  replace C : CX X 103 cX11_doorOf 1 RX11 (some .int) 0 0 := C
  show V X _ h 0 [some (.int a1)] []
  unfold F_X11_doorOf at hyp
  refine V_iload_n (pc := 0) C dX11_doorOf_0 rfl ?_
  refine V_sipush (pc := 1) C dX11_doorOf_1 (v := 2048) (by decide) ?_
  refine V_iand (pc := 4) C dX11_doorOf_4 ?_
  refine V_if_eq (pc := 5) C dX11_doorOf_5 (tgt := 12) (by decide) (fun q1 => ?_) (fun q1 => ?_)
  · replace hyp := (if_pos q1).symm.trans hyp
    refine V_iconst (pc := 12) C dX11_doorOf_12 (v := 0) (by decide) ?_
    cases hyp
    exact V_iret C dX11_doorOf_13
  · replace hyp := (if_neg q1).symm.trans hyp
    refine V_iconst (pc := 8) C dX11_doorOf_8 (v := 1) (by decide) ?_
    refine V_goto (pc := 9) C dX11_doorOf_9 (tgt := 13) (by decide) ?_
    cases hyp
    exact V_iret C dX11_doorOf_13
theorem dX4_restart_0 : decode cX4_restart 0 = .ok (.aload_n 0, 1) := by decide +kernel
theorem dX4_restart_1 : decode cX4_restart 1 = .ok (.iconst 0, 1) := by decide +kernel
theorem dX4_restart_2 : decode cX4_restart 2 = .ok (.putfield 18, 3) := by decide +kernel
theorem dX4_restart_5 : decode cX4_restart 5 = .ok (.aload_n 0, 1) := by decide +kernel
theorem dX4_restart_6 : decode cX4_restart 6 = .ok (.iconst 0, 1) := by decide +kernel
theorem dX4_restart_7 : decode cX4_restart 7 = .ok (.putfield 22, 3) := by decide +kernel
theorem dX4_restart_10 : decode cX4_restart 10 = .ok (.aload_n 0, 1) := by decide +kernel
theorem dX4_restart_11 : decode cX4_restart 11 = .ok (.iconst 0, 1) := by decide +kernel
theorem dX4_restart_12 : decode cX4_restart 12 = .ok (.putfield 25, 3) := by decide +kernel
theorem dX4_restart_15 : decode cX4_restart 15 = .ok (.return_, 1) := by decide +kernel
def F_X4_restart (h : PH) : Option PH :=
  hb (hs h 14 2 (0 : Int32)) fun h1 =>
  hb (hs h1 14 3 (0 : Int32)) fun h2 =>
  hb (hs h2 14 4 (0 : Int32)) fun h3 =>
  some h3
set_option maxRecDepth 20000 in
set_option maxHeartbeats 4000000 in
theorem M_X4_restart (E : EV) {h h2 : PH} (hyp : F_X4_restart  h = some h2) : MV E 103 yX4_restart cX4_restart 1 none 0 0 [.ref 14] h h2 := by
  refine MV.of 0 (by decide) rfl (fun X e1 C => ?_)
  subst e1
  replace C : CX X 103 cX4_restart 1 RX4 none 0 0 := C
  show V X _ h 0 [some (.ref 14)] []
  unfold F_X4_restart at hyp
  refine V_aload_n (pc := 0) C dX4_restart_0 rfl ?_
  refine V_iconst (pc := 1) C dX4_restart_1 (v := 0) (by decide) ?_
  obtain ⟨h1, eh1, hyp⟩ := hb_n hyp
  refine V_putI (pc := 2) C dX4_restart_2 lf_X4_18 fk_14_2 rfl rfl eh1 ?_
  refine V_aload_n (pc := 5) C dX4_restart_5 rfl ?_
  refine V_iconst (pc := 6) C dX4_restart_6 (v := 0) (by decide) ?_
  obtain ⟨h2, eh2, hyp⟩ := hb_n hyp
  refine V_putI (pc := 7) C dX4_restart_7 lf_X4_22 fk_14_3 rfl rfl eh2 ?_
  refine V_aload_n (pc := 10) C dX4_restart_10 rfl ?_
  refine V_iconst (pc := 11) C dX4_restart_11 (v := 0) (by decide) ?_
  obtain ⟨h3, eh3, hyp⟩ := hb_n hyp
  refine V_putI (pc := 12) C dX4_restart_12 lf_X4_25 fk_14_4 rfl rfl eh3 ?_
  cases hyp
  exact V_vret C dX4_restart_15
theorem dX4_isButton_0 : decode cX4_isButton 0 = .ok (.iload_n 1, 1) := by decide +kernel
theorem dX4_isButton_1 : decode cX4_isButton 1 = .ok (.iconst (-1), 1) := by decide +kernel
theorem dX4_isButton_2 : decode cX4_isButton 2 = .ok (.if_icmp .lt 15, 3) := by decide +kernel
theorem dX4_isButton_5 : decode cX4_isButton 5 = .ok (.iload_n 1, 1) := by decide +kernel
theorem dX4_isButton_6 : decode cX4_isButton 6 = .ok (.aload_n 0, 1) := by decide +kernel
theorem dX4_isButton_7 : decode cX4_isButton 7 = .ok (.getfield 28, 3) := by decide +kernel
theorem dX4_isButton_10 : decode cX4_isButton 10 = .ok (.if_icmp .ge 7, 3) := by decide +kernel
theorem dX4_isButton_13 : decode cX4_isButton 13 = .ok (.iconst 1, 1) := by decide +kernel
theorem dX4_isButton_14 : decode cX4_isButton 14 = .ok (.goto 4, 3) := by decide +kernel
theorem dX4_isButton_17 : decode cX4_isButton 17 = .ok (.iconst 0, 1) := by decide +kernel
theorem dX4_isButton_18 : decode cX4_isButton 18 = .ok (.ireturn, 1) := by decide +kernel
def F_X4_isButton_b17 (h : PH) : Option (Int32 × PH) :=
  some ((0 : Int32), h)
set_option maxRecDepth 20000 in
set_option maxHeartbeats 4000000 in
theorem T_X4_isButton_b17 {X : CT} (C : CX X 103 cX4_isButton 2 RX4 (some .boolean) 0 0) {r0 : Int32} {h0 : PH} : ∀ (h : PH), F_X4_isButton_b17  h = some (r0, h0) → V X (QI X r0 h0) h 17 [none, none] [] := by
  intro  h hyp
  unfold F_X4_isButton_b17 at hyp
  refine V_iconst (pc := 17) C dX4_isButton_17 (v := 0) (by decide) ?_
  cases hyp
  exact V_zret C dX4_isButton_18 rfl
def F_X4_isButton (a1 : Int32) (h : PH) : Option (Int32 × PH) :=
  if a1 < (-1 : Int32) then
    F_X4_isButton_b17  h
  else
    if (h.1 14 1) ≤ a1 then
      F_X4_isButton_b17  h
    else
      some ((1 : Int32), h)
set_option maxRecDepth 20000 in
set_option maxHeartbeats 4000000 in
theorem M_X4_isButton (E : EV) {a1 : Int32} {r : Int32} {h h2 : PH} (hyp : F_X4_isButton a1 h = some (r, h2)) : MI E 103 yX4_isButton cX4_isButton 2 (some .boolean) 0 0 [.ref 14, .int a1] h r h2 := by
  refine MI.of 0 (by decide) rfl (fun X e1 C => ?_)
  subst e1
  replace C : CX X 103 cX4_isButton 2 RX4 (some .boolean) 0 0 := C
  show V X _ h 0 [some (.ref 14), some (.int a1)] []
  unfold F_X4_isButton at hyp
  refine V_iload_n (pc := 0) C dX4_isButton_0 rfl ?_
  refine V_iconst (pc := 1) C dX4_isButton_1 (v := -1) (by decide) ?_
  refine V_icmp_lt (pc := 2) C dX4_isButton_2 (tgt := 17) (by decide) (fun q1 => ?_) (fun q1 => ?_)
  · replace hyp := (if_pos q1).symm.trans hyp
    refine V_weak (lv' := [none, none]) (lvle_n (lvle_n lvle_0)) ?_
    exact (T_X4_isButton_b17 C) h hyp
  · replace hyp := (if_neg q1).symm.trans hyp
    refine V_iload_n (pc := 5) C dX4_isButton_5 rfl ?_
    refine V_aload_n (pc := 6) C dX4_isButton_6 rfl ?_
    refine V_getI (pc := 7) C dX4_isButton_7 lf_X4_28 fk_14_1 ?_
    refine V_icmp_ge (pc := 10) C dX4_isButton_10 (tgt := 17) (by decide) (fun q2 => ?_) (fun q2 => ?_)
    · replace hyp := (if_pos q2).symm.trans hyp
      refine V_weak (lv' := [none, none]) (lvle_n (lvle_n lvle_0)) ?_
      exact (T_X4_isButton_b17 C) h hyp
    · replace hyp := (if_neg q2).symm.trans hyp
      refine V_iconst (pc := 13) C dX4_isButton_13 (v := 1) (by decide) ?_
      refine V_goto (pc := 14) C dX4_isButton_14 (tgt := 18) (by decide) ?_
      cases hyp
      exact V_zret C dX4_isButton_18 rfl
theorem dX4_factsOf_0 : decode cX4_factsOf 0 = .ok (.iload_n 0, 1) := by decide +kernel
theorem dX4_factsOf_1 : decode cX4_factsOf 1 = .ok (.sipush 255, 3) := by decide +kernel
theorem dX4_factsOf_4 : decode cX4_factsOf 4 = .ok (.iand, 1) := by decide +kernel
theorem dX4_factsOf_5 : decode cX4_factsOf 5 = .ok (.iconst 1, 1) := by decide +kernel
theorem dX4_factsOf_6 : decode cX4_factsOf 6 = .ok (.bipush 14, 2) := by decide +kernel
theorem dX4_factsOf_8 : decode cX4_factsOf 8 = .ok (.iload_n 0, 1) := by decide +kernel
theorem dX4_factsOf_9 : decode cX4_factsOf 9 = .ok (.invokestatic 45, 3) := by decide +kernel
theorem dX4_factsOf_12 : decode cX4_factsOf 12 = .ok (.iadd, 1) := by decide +kernel
theorem dX4_factsOf_13 : decode cX4_factsOf 13 = .ok (.ishl, 1) := by decide +kernel
theorem dX4_factsOf_14 : decode cX4_factsOf 14 = .ok (.ior, 1) := by decide +kernel
theorem dX4_factsOf_15 : decode cX4_factsOf 15 = .ok (.iload_n 0, 1) := by decide +kernel
theorem dX4_factsOf_16 : decode cX4_factsOf 16 = .ok (.invokestatic 51, 3) := by decide +kernel
theorem dX4_factsOf_19 : decode cX4_factsOf 19 = .ok (.bipush 20, 2) := by decide +kernel
theorem dX4_factsOf_21 : decode cX4_factsOf 21 = .ok (.ishl, 1) := by decide +kernel
theorem dX4_factsOf_22 : decode cX4_factsOf 22 = .ok (.ior, 1) := by decide +kernel
theorem dX4_factsOf_23 : decode cX4_factsOf 23 = .ok (.istore_n 2, 1) := by decide +kernel
theorem dX4_factsOf_24 : decode cX4_factsOf 24 = .ok (.iload_n 1, 1) := by decide +kernel
theorem dX4_factsOf_25 : decode cX4_factsOf 25 = .ok (.iconst (-1), 1) := by decide +kernel
theorem dX4_factsOf_26 : decode cX4_factsOf 26 = .ok (.if_icmp .ne 7, 3) := by decide +kernel
theorem dX4_factsOf_29 : decode cX4_factsOf 29 = .ok (.iload_n 2, 1) := by decide +kernel
theorem dX4_factsOf_30 : decode cX4_factsOf 30 = .ok (.goto 14, 3) := by decide +kernel
theorem dX4_factsOf_33 : decode cX4_factsOf 33 = .ok (.iload_n 2, 1) := by decide +kernel
theorem dX4_factsOf_34 : decode cX4_factsOf 34 = .ok (.iconst 1, 1) := by decide +kernel
theorem dX4_factsOf_35 : decode cX4_factsOf 35 = .ok (.bipush 8, 2) := by decide +kernel
theorem dX4_factsOf_37 : decode cX4_factsOf 37 = .ok (.iload_n 1, 1) := by decide +kernel
theorem dX4_factsOf_38 : decode cX4_factsOf 38 = .ok (.iadd, 1) := by decide +kernel
theorem dX4_factsOf_39 : decode cX4_factsOf 39 = .ok (.ishl, 1) := by decide +kernel
theorem dX4_factsOf_40 : decode cX4_factsOf 40 = .ok (.ior, 1) := by decide +kernel
theorem dX4_factsOf_41 : decode cX4_factsOf 41 = .ok (.ldc 54, 2) := by decide +kernel
theorem dX4_factsOf_43 : decode cX4_factsOf 43 = .ok (.ior, 1) := by decide +kernel
theorem dX4_factsOf_44 : decode cX4_factsOf 44 = .ok (.ireturn, 1) := by decide +kernel
def F_X4_factsOf (a1 : Int32) (a2 : Int32) (h : PH) : Option (Int32 × PH) :=
  bI (F_X11_floorOf a1 h) fun r1 h2 =>
  bI (F_X11_doorOf a1 h2) fun r3 h4 =>
  ib (((a1 &&& (255 : Int32)) ||| ((1 : Int32) <<< (((14 : Int32) + r1) &&& 31))) ||| (r3 <<< ((20 : Int32) &&& 31))) fun v5 =>
  if a2 = (-1 : Int32) then
    some (v5, h4)
  else
    some ((v5 ||| ((1 : Int32) <<< (((8 : Int32) + a2) &&& 31))) ||| (2097152 : Int32), h4)
set_option maxRecDepth 20000 in
set_option maxHeartbeats 4000000 in
theorem M_X4_factsOf (E : EV) {a1 : Int32} {a2 : Int32} {r : Int32} {h h2 : PH} (hyp : F_X4_factsOf a1 a2 h = some (r, h2)) : MI E 103 yX4_factsOf cX4_factsOf 3 (some .int) 1 20 [.int a1, .int a2] h r h2 := by
  refine MI.of 1 (by decide) rfl (fun X e1 C => ?_)
  subst e1
  replace C : CX X 103 cX4_factsOf 3 RX4 (some .int) 1 20 := C
  show V X _ h 0 [some (.int a1), some (.int a2), none] []
  unfold F_X4_factsOf at hyp
  refine V_iload_n (pc := 0) C dX4_factsOf_0 rfl ?_
  refine V_sipush (pc := 1) C dX4_factsOf_1 (v := 255) (by decide) ?_
  refine V_iand (pc := 4) C dX4_factsOf_4 ?_
  refine V_iconst (pc := 5) C dX4_factsOf_5 (v := 1) (by decide) ?_
  refine V_bipush (pc := 6) C dX4_factsOf_6 (v := 14) (by decide) ?_
  refine V_iload_n (pc := 8) C dX4_factsOf_8 rfl ?_
  obtain ⟨r1, h2, eh2, hyp⟩ := bI_n hyp
  refine V_nstI (pc := 9) C dX4_factsOf_9 ln_X4_45 ms_X11_floorOf (M_X11_floorOf _ eh2) rfl pd_X11_floorOf (by decide) (by decide) (by decide) (As := [.int a1]) (rest := [.int (14 : Int32), .int (1 : Int32), .int (a1 &&& (255 : Int32))]) rfl (Nat.le_of_ble_eq_true rfl) ?_
  refine V_iadd (pc := 12) C dX4_factsOf_12 ?_
  refine V_ishl (pc := 13) C dX4_factsOf_13 ?_
  refine V_ior (pc := 14) C dX4_factsOf_14 ?_
  refine V_iload_n (pc := 15) C dX4_factsOf_15 rfl ?_
  obtain ⟨r3, h4, eh4, hyp⟩ := bI_n hyp
  refine V_nstI (pc := 16) C dX4_factsOf_16 ln_X4_51 ms_X11_doorOf (M_X11_doorOf _ eh4) rfl pd_X11_doorOf (by decide) (by decide) (by decide) (As := [.int a1]) (rest := [.int ((a1 &&& (255 : Int32)) ||| ((1 : Int32) <<< (((14 : Int32) + r1) &&& 31)))]) rfl (Nat.le_of_ble_eq_true rfl) ?_
  refine V_bipush (pc := 19) C dX4_factsOf_19 (v := 20) (by decide) ?_
  refine V_ishl (pc := 21) C dX4_factsOf_21 ?_
  refine V_ior (pc := 22) C dX4_factsOf_22 ?_
  obtain ⟨v5, ev5, hyp⟩ := ib_n hyp
  refine V_topI ev5 ?_
  refine V_istore_n (pc := 23) C dX4_factsOf_23 (by decide) rfl ?_
  refine V_iload_n (pc := 24) C dX4_factsOf_24 rfl ?_
  refine V_iconst (pc := 25) C dX4_factsOf_25 (v := -1) (by decide) ?_
  refine V_icmp_ne (pc := 26) C dX4_factsOf_26 (tgt := 33) (by decide) (fun q6 => ?_) (fun q6 => ?_)
  · replace hyp := (if_neg q6).symm.trans hyp
    refine V_iload_n (pc := 33) C dX4_factsOf_33 rfl ?_
    refine V_iconst (pc := 34) C dX4_factsOf_34 (v := 1) (by decide) ?_
    refine V_bipush (pc := 35) C dX4_factsOf_35 (v := 8) (by decide) ?_
    refine V_iload_n (pc := 37) C dX4_factsOf_37 rfl ?_
    refine V_iadd (pc := 38) C dX4_factsOf_38 ?_
    refine V_ishl (pc := 39) C dX4_factsOf_39 ?_
    refine V_ior (pc := 40) C dX4_factsOf_40 ?_
    refine V_ldc (pc := 41) C dX4_factsOf_41 lc_X4_54 ?_
    refine V_ior (pc := 43) C dX4_factsOf_43 ?_
    cases hyp
    exact V_iret C dX4_factsOf_44
  · replace hyp := (if_pos q6).symm.trans hyp
    refine V_iload_n (pc := 29) C dX4_factsOf_29 rfl ?_
    refine V_goto (pc := 30) C dX4_factsOf_30 (tgt := 44) (by decide) ?_
    cases hyp
    exact V_iret C dX4_factsOf_44
theorem dX4_shifted_0 : decode cX4_shifted 0 = .ok (.iload_n 2, 1) := by decide +kernel
theorem dX4_shifted_1 : decode cX4_shifted 1 = .ok (.ifCond .lt 11, 3) := by decide +kernel
theorem dX4_shifted_4 : decode cX4_shifted 4 = .ok (.iload_n 2, 1) := by decide +kernel
theorem dX4_shifted_5 : decode cX4_shifted 5 = .ok (.aload_n 0, 1) := by decide +kernel
theorem dX4_shifted_6 : decode cX4_shifted 6 = .ok (.getfield 28, 3) := by decide +kernel
theorem dX4_shifted_9 : decode cX4_shifted 9 = .ok (.if_icmp .lt 9, 3) := by decide +kernel
theorem dX4_shifted_12 : decode cX4_shifted 12 = .ok (.iload_n 1, 1) := by decide +kernel
theorem dX4_shifted_13 : decode cX4_shifted 13 = .ok (.sipush 4096, 3) := by decide +kernel
theorem dX4_shifted_16 : decode cX4_shifted 16 = .ok (.ior, 1) := by decide +kernel
theorem dX4_shifted_17 : decode cX4_shifted 17 = .ok (.ireturn, 1) := by decide +kernel
theorem dX4_shifted_18 : decode cX4_shifted 18 = .ok (.iload_n 1, 1) := by decide +kernel
theorem dX4_shifted_19 : decode cX4_shifted 19 = .ok (.sipush 255, 3) := by decide +kernel
theorem dX4_shifted_22 : decode cX4_shifted 22 = .ok (.iand, 1) := by decide +kernel
theorem dX4_shifted_23 : decode cX4_shifted 23 = .ok (.iload_n 2, 1) := by decide +kernel
theorem dX4_shifted_24 : decode cX4_shifted 24 = .ok (.bipush 8, 2) := by decide +kernel
theorem dX4_shifted_26 : decode cX4_shifted 26 = .ok (.ishl, 1) := by decide +kernel
theorem dX4_shifted_27 : decode cX4_shifted 27 = .ok (.ior, 1) := by decide +kernel
theorem dX4_shifted_28 : decode cX4_shifted 28 = .ok (.ireturn, 1) := by decide +kernel
def F_X4_shifted_b12 (x1 : Int32) (h : PH) : Option (Int32 × PH) :=
  some (x1 ||| (4096 : Int32), h)
set_option maxRecDepth 20000 in
set_option maxHeartbeats 4000000 in
theorem T_X4_shifted_b12 {X : CT} (C : CX X 103 cX4_shifted 3 RX4 (some .int) 0 0) {r0 : Int32} {h0 : PH} : ∀ (x1 : Int32) (h : PH), F_X4_shifted_b12 x1 h = some (r0, h0) → V X (QI X r0 h0) h 12 [none, some (.int x1), none] [] := by
  intro x1 h hyp
  unfold F_X4_shifted_b12 at hyp
  refine V_iload_n (pc := 12) C dX4_shifted_12 rfl ?_
  refine V_sipush (pc := 13) C dX4_shifted_13 (v := 4096) (by decide) ?_
  refine V_ior (pc := 16) C dX4_shifted_16 ?_
  cases hyp
  exact V_iret C dX4_shifted_17
def F_X4_shifted (a1 : Int32) (a2 : Int32) (h : PH) : Option (Int32 × PH) :=
  if a2 < 0 then
    F_X4_shifted_b12 a1 h
  else
    if a2 < (h.1 14 1) then
      some ((a1 &&& (255 : Int32)) ||| (a2 <<< ((8 : Int32) &&& 31)), h)
    else
      F_X4_shifted_b12 a1 h
set_option maxRecDepth 20000 in
set_option maxHeartbeats 4000000 in
theorem M_X4_shifted (E : EV) {a1 : Int32} {a2 : Int32} {r : Int32} {h h2 : PH} (hyp : F_X4_shifted a1 a2 h = some (r, h2)) : MI E 103 yX4_shifted cX4_shifted 3 (some .int) 0 0 [.ref 14, .int a1, .int a2] h r h2 := by
  refine MI.of 0 (by decide) rfl (fun X e1 C => ?_)
  subst e1
  replace C : CX X 103 cX4_shifted 3 RX4 (some .int) 0 0 := C
  show V X _ h 0 [some (.ref 14), some (.int a1), some (.int a2)] []
  unfold F_X4_shifted at hyp
  refine V_iload_n (pc := 0) C dX4_shifted_0 rfl ?_
  refine V_if_lt (pc := 1) C dX4_shifted_1 (tgt := 12) (by decide) (fun q1 => ?_) (fun q1 => ?_)
  · replace hyp := (if_pos q1).symm.trans hyp
    refine V_weak (lv' := [none, some (.int a1), none]) (lvle_n (lvle_s (lvle_n lvle_0))) ?_
    exact (T_X4_shifted_b12 C) a1 h hyp
  · replace hyp := (if_neg q1).symm.trans hyp
    refine V_iload_n (pc := 4) C dX4_shifted_4 rfl ?_
    refine V_aload_n (pc := 5) C dX4_shifted_5 rfl ?_
    refine V_getI (pc := 6) C dX4_shifted_6 lf_X4_28 fk_14_1 ?_
    refine V_icmp_lt (pc := 9) C dX4_shifted_9 (tgt := 18) (by decide) (fun q2 => ?_) (fun q2 => ?_)
    · replace hyp := (if_pos q2).symm.trans hyp
      refine V_iload_n (pc := 18) C dX4_shifted_18 rfl ?_
      refine V_sipush (pc := 19) C dX4_shifted_19 (v := 255) (by decide) ?_
      refine V_iand (pc := 22) C dX4_shifted_22 ?_
      refine V_iload_n (pc := 23) C dX4_shifted_23 rfl ?_
      refine V_bipush (pc := 24) C dX4_shifted_24 (v := 8) (by decide) ?_
      refine V_ishl (pc := 26) C dX4_shifted_26 ?_
      refine V_ior (pc := 27) C dX4_shifted_27 ?_
      cases hyp
      exact V_iret C dX4_shifted_28
    · replace hyp := (if_neg q2).symm.trans hyp
      refine V_weak (lv' := [none, some (.int a1), none]) (lvle_n (lvle_s (lvle_n lvle_0))) ?_
      exact (T_X4_shifted_b12 C) a1 h hyp
theorem dX4_step_0 : decode cX4_step 0 = .ok (.iload_n 1, 1) := by decide +kernel
theorem dX4_step_1 : decode cX4_step 1 = .ok (.iload_n 2, 1) := by decide +kernel
theorem dX4_step_2 : decode cX4_step 2 = .ok (.invokestatic 39, 3) := by decide +kernel
theorem dX4_step_5 : decode cX4_step 5 = .ok (.istore_n 3, 1) := by decide +kernel
theorem dX4_step_6 : decode cX4_step 6 = .ok (.iconst 0, 1) := by decide +kernel
theorem dX4_step_7 : decode cX4_step 7 = .ok (.istore 4, 2) := by decide +kernel
theorem dX4_step_9 : decode cX4_step 9 = .ok (.iconst 0, 1) := by decide +kernel
theorem dX4_step_10 : decode cX4_step 10 = .ok (.istore 5, 2) := by decide +kernel
theorem dX4_step_12 : decode cX4_step 12 = .ok (.iload 5, 2) := by decide +kernel
theorem dX4_step_14 : decode cX4_step 14 = .ok (.bipush 8, 2) := by decide +kernel
theorem dX4_step_16 : decode cX4_step 16 = .ok (.if_icmp .ge 31, 3) := by decide +kernel
theorem dX4_step_19 : decode cX4_step 19 = .ok (.aload_n 0, 1) := by decide +kernel
theorem dX4_step_20 : decode cX4_step 20 = .ok (.getfield 12, 3) := by decide +kernel
theorem dX4_step_23 : decode cX4_step 23 = .ok (.iload 5, 2) := by decide +kernel
theorem dX4_step_25 : decode cX4_step 25 = .ok (.iload_n 3, 1) := by decide +kernel
theorem dX4_step_26 : decode cX4_step 26 = .ok (.invokevirtual 42, 3) := by decide +kernel
theorem dX4_step_29 : decode cX4_step 29 = .ok (.ifCond .eq 12, 3) := by decide +kernel
theorem dX4_step_32 : decode cX4_step 32 = .ok (.iload 4, 2) := by decide +kernel
theorem dX4_step_34 : decode cX4_step 34 = .ok (.iconst 1, 1) := by decide +kernel
theorem dX4_step_35 : decode cX4_step 35 = .ok (.iload 5, 2) := by decide +kernel
theorem dX4_step_37 : decode cX4_step 37 = .ok (.ishl, 1) := by decide +kernel
theorem dX4_step_38 : decode cX4_step 38 = .ok (.ior, 1) := by decide +kernel
theorem dX4_step_39 : decode cX4_step 39 = .ok (.istore 4, 2) := by decide +kernel
theorem dX4_step_41 : decode cX4_step 41 = .ok (.iinc 5 1, 3) := by decide +kernel
theorem dX4_step_44 : decode cX4_step 44 = .ok (.goto (-32), 3) := by decide +kernel
theorem dX4_step_47 : decode cX4_step 47 = .ok (.iload_n 3, 1) := by decide +kernel
theorem dX4_step_48 : decode cX4_step 48 = .ok (.sipush (-256), 3) := by decide +kernel
theorem dX4_step_51 : decode cX4_step 51 = .ok (.iand, 1) := by decide +kernel
theorem dX4_step_52 : decode cX4_step 52 = .ok (.iload 4, 2) := by decide +kernel
theorem dX4_step_54 : decode cX4_step 54 = .ok (.ior, 1) := by decide +kernel
theorem dX4_step_55 : decode cX4_step 55 = .ok (.istore 5, 2) := by decide +kernel
theorem dX4_step_57 : decode cX4_step 57 = .ok (.aload_n 0, 1) := by decide +kernel
theorem dX4_step_58 : decode cX4_step 58 = .ok (.getfield 12, 3) := by decide +kernel
theorem dX4_step_61 : decode cX4_step 61 = .ok (.bipush 10, 2) := by decide +kernel
theorem dX4_step_63 : decode cX4_step 63 = .ok (.iload 5, 2) := by decide +kernel
theorem dX4_step_65 : decode cX4_step 65 = .ok (.invokevirtual 42, 3) := by decide +kernel
theorem dX4_step_68 : decode cX4_step 68 = .ok (.ifCond .eq 7, 3) := by decide +kernel
theorem dX4_step_71 : decode cX4_step 71 = .ok (.iconst 1, 1) := by decide +kernel
theorem dX4_step_72 : decode cX4_step 72 = .ok (.goto 4, 3) := by decide +kernel
theorem dX4_step_75 : decode cX4_step 75 = .ok (.iconst 0, 1) := by decide +kernel
theorem dX4_step_76 : decode cX4_step 76 = .ok (.istore 6, 2) := by decide +kernel
theorem dX4_step_78 : decode cX4_step 78 = .ok (.iload_n 1, 1) := by decide +kernel
theorem dX4_step_79 : decode cX4_step 79 = .ok (.sipush (-256), 3) := by decide +kernel
theorem dX4_step_82 : decode cX4_step 82 = .ok (.iand, 1) := by decide +kernel
theorem dX4_step_83 : decode cX4_step 83 = .ok (.iload 4, 2) := by decide +kernel
theorem dX4_step_85 : decode cX4_step 85 = .ok (.ior, 1) := by decide +kernel
theorem dX4_step_86 : decode cX4_step 86 = .ok (.istore 7, 2) := by decide +kernel
theorem dX4_step_88 : decode cX4_step 88 = .ok (.iload_n 1, 1) := by decide +kernel
theorem dX4_step_89 : decode cX4_step 89 = .ok (.sipush 2048, 3) := by decide +kernel
theorem dX4_step_92 : decode cX4_step 92 = .ok (.iand, 1) := by decide +kernel
theorem dX4_step_93 : decode cX4_step 93 = .ok (.ifCond .eq 20, 3) := by decide +kernel
theorem dX4_step_96 : decode cX4_step 96 = .ok (.iload 6, 2) := by decide +kernel
theorem dX4_step_98 : decode cX4_step 98 = .ok (.ifCond .eq 8, 3) := by decide +kernel
theorem dX4_step_101 : decode cX4_step 101 = .ok (.iload 7, 2) := by decide +kernel
theorem dX4_step_103 : decode cX4_step 103 = .ok (.goto 9, 3) := by decide +kernel
theorem dX4_step_106 : decode cX4_step 106 = .ok (.iload 7, 2) := by decide +kernel
theorem dX4_step_108 : decode cX4_step 108 = .ok (.sipush (-2049), 3) := by decide +kernel
theorem dX4_step_111 : decode cX4_step 111 = .ok (.iand, 1) := by decide +kernel
theorem dX4_step_112 : decode cX4_step 112 = .ok (.ireturn, 1) := by decide +kernel
theorem dX4_step_113 : decode cX4_step 113 = .ok (.aload_n 0, 1) := by decide +kernel
theorem dX4_step_114 : decode cX4_step 114 = .ok (.getfield 12, 3) := by decide +kernel
theorem dX4_step_117 : decode cX4_step 117 = .ok (.bipush 8, 2) := by decide +kernel
theorem dX4_step_119 : decode cX4_step 119 = .ok (.iload 5, 2) := by decide +kernel
theorem dX4_step_121 : decode cX4_step 121 = .ok (.invokevirtual 42, 3) := by decide +kernel
theorem dX4_step_124 : decode cX4_step 124 = .ok (.ifCond .eq 7, 3) := by decide +kernel
theorem dX4_step_127 : decode cX4_step 127 = .ok (.iconst 1, 1) := by decide +kernel
theorem dX4_step_128 : decode cX4_step 128 = .ok (.goto 4, 3) := by decide +kernel
theorem dX4_step_131 : decode cX4_step 131 = .ok (.iconst 0, 1) := by decide +kernel
theorem dX4_step_132 : decode cX4_step 132 = .ok (.istore 8, 2) := by decide +kernel
theorem dX4_step_134 : decode cX4_step 134 = .ok (.aload_n 0, 1) := by decide +kernel
theorem dX4_step_135 : decode cX4_step 135 = .ok (.getfield 12, 3) := by decide +kernel
theorem dX4_step_138 : decode cX4_step 138 = .ok (.bipush 9, 2) := by decide +kernel
theorem dX4_step_140 : decode cX4_step 140 = .ok (.iload 5, 2) := by decide +kernel
theorem dX4_step_142 : decode cX4_step 142 = .ok (.invokevirtual 42, 3) := by decide +kernel
theorem dX4_step_145 : decode cX4_step 145 = .ok (.ifCond .eq 7, 3) := by decide +kernel
theorem dX4_step_148 : decode cX4_step 148 = .ok (.iconst 1, 1) := by decide +kernel
theorem dX4_step_149 : decode cX4_step 149 = .ok (.goto 4, 3) := by decide +kernel
theorem dX4_step_152 : decode cX4_step 152 = .ok (.iconst 0, 1) := by decide +kernel
theorem dX4_step_153 : decode cX4_step 153 = .ok (.istore 9, 2) := by decide +kernel
theorem dX4_step_155 : decode cX4_step 155 = .ok (.iload 8, 2) := by decide +kernel
theorem dX4_step_157 : decode cX4_step 157 = .ok (.iload 9, 2) := by decide +kernel
theorem dX4_step_159 : decode cX4_step 159 = .ok (.if_icmp .eq 25, 3) := by decide +kernel
theorem dX4_step_162 : decode cX4_step 162 = .ok (.aload_n 0, 1) := by decide +kernel
theorem dX4_step_163 : decode cX4_step 163 = .ok (.iload 7, 2) := by decide +kernel
theorem dX4_step_165 : decode cX4_step 165 = .ok (.iload_n 1, 1) := by decide +kernel
theorem dX4_step_166 : decode cX4_step 166 = .ok (.invokestatic 45, 3) := by decide +kernel
theorem dX4_step_169 : decode cX4_step 169 = .ok (.iload 8, 2) := by decide +kernel
theorem dX4_step_171 : decode cX4_step 171 = .ok (.ifCond .eq 7, 3) := by decide +kernel
theorem dX4_step_174 : decode cX4_step 174 = .ok (.iconst 1, 1) := by decide +kernel
theorem dX4_step_175 : decode cX4_step 175 = .ok (.goto 4, 3) := by decide +kernel
theorem dX4_step_178 : decode cX4_step 178 = .ok (.iconst (-1), 1) := by decide +kernel
theorem dX4_step_179 : decode cX4_step 179 = .ok (.iadd, 1) := by decide +kernel
theorem dX4_step_180 : decode cX4_step 180 = .ok (.invokevirtual 48, 3) := by decide +kernel
theorem dX4_step_183 : decode cX4_step 183 = .ok (.ireturn, 1) := by decide +kernel
theorem dX4_step_184 : decode cX4_step 184 = .ok (.iload 6, 2) := by decide +kernel
theorem dX4_step_186 : decode cX4_step 186 = .ok (.ifCond .eq 12, 3) := by decide +kernel
theorem dX4_step_189 : decode cX4_step 189 = .ok (.iload 7, 2) := by decide +kernel
theorem dX4_step_191 : decode cX4_step 191 = .ok (.sipush 2048, 3) := by decide +kernel
theorem dX4_step_194 : decode cX4_step 194 = .ok (.ior, 1) := by decide +kernel
theorem dX4_step_195 : decode cX4_step 195 = .ok (.goto 5, 3) := by decide +kernel
theorem dX4_step_198 : decode cX4_step 198 = .ok (.iload 7, 2) := by decide +kernel
theorem dX4_step_200 : decode cX4_step 200 = .ok (.ireturn, 1) := by decide +kernel
def F_X4_step_b41 (N : Nat) (rc12 : Int32 → Int32 → Int32 → Int32 → PH → Option (Int32 × PH)) (x1 : Int32) (x3 : Int32) (x4 : Int32) (x5 : Int32) (h : PH) : Option (Int32 × PH) :=
  ib (x5 + (1 : Int32)) fun v1 =>
  rc12 x1 x3 x4 v1 h
set_option maxRecDepth 20000 in
set_option maxHeartbeats 4000000 in
theorem T_X4_step_b41 {X : CT} (C : CX X 103 cX4_step 10 RX4 (some .int) 2 50) {r0 : Int32} {h0 : PH} {N : Nat} {rc12 : Int32 → Int32 → Int32 → Int32 → PH → Option (Int32 × PH)} (hr12 : ∀ (x1 : Int32) (x3 : Int32) (x4 : Int32) (x5 : Int32) (h : PH), rc12 x1 x3 x4 x5 h = some (r0, h0) → V X (QI X r0 h0) h 12 [some (.ref 14), some (.int x1), none, some (.int x3), some (.int x4), some (.int x5), none, none, none, none] []) : ∀ (x1 : Int32) (x3 : Int32) (x4 : Int32) (x5 : Int32) (h : PH), F_X4_step_b41 N rc12 x1 x3 x4 x5 h = some (r0, h0) → V X (QI X r0 h0) h 41 [some (.ref 14), some (.int x1), none, some (.int x3), some (.int x4), some (.int x5), none, none, none, none] [] := by
  intro x1 x3 x4 x5 h hyp
  unfold F_X4_step_b41 at hyp
  obtain ⟨v1, ev1, hyp⟩ := ib_n hyp
  refine V_iinc (pc := 41) C dX4_step_41 (v := v1) rfl (by rw [ev1]; rfl) (by decide) rfl ?_
  refine V_goto (pc := 44) C dX4_step_44 (tgt := 12) (by decide) ?_
  refine V_weak (lv' := [some (.ref 14), some (.int x1), none, some (.int x3), some (.int x4), some (.int v1), none, none, none, none]) (lvle_s (lvle_s (lvle_n (lvle_s (lvle_s (lvle_s (lvle_n (lvle_n (lvle_n (lvle_n lvle_0)))))))))) ?_
  exact hr12 x1 x3 x4 v1 h hyp
def F_X4_step_b179 (N : Nat) (s0 : Int32) (s1 : Int32) (s2 : Int32) (h : PH) : Option (Int32 × PH) :=
  bI (F_X4_shifted s2 (s1 + s0) h) fun r1 h2 =>
  some (r1, h2)
set_option maxRecDepth 20000 in
set_option maxHeartbeats 4000000 in
theorem T_X4_step_b179 {X : CT} (C : CX X 103 cX4_step 10 RX4 (some .int) 2 50) {r0 : Int32} {h0 : PH} {N : Nat} : ∀ (s0 : Int32) (s1 : Int32) (s2 : Int32) (h : PH), F_X4_step_b179 N s0 s1 s2 h = some (r0, h0) → V X (QI X r0 h0) h 179 [none, none, none, none, none, none, none, none, none, none] [.int s0, .int s1, .int s2, .ref 14] := by
  intro s0 s1 s2 h hyp
  unfold F_X4_step_b179 at hyp
  refine V_iadd (pc := 179) C dX4_step_179 ?_
  obtain ⟨r1, h2, eh2, hyp⟩ := bI_n hyp
  refine V_callI (pc := 180) C dX4_step_180 lm_X4_48 mk_X4_shifted ok_14 rfl (M_X4_shifted _ eh2) rfl pd_X4_shifted (by decide) (by decide) (by decide) (As := [.int s2, .int (s1 + s0)]) (rest := []) rfl (Nat.le_of_ble_eq_true rfl) ?_
  cases hyp
  exact V_iret C dX4_step_183
def F_X4_step_b153 (N : Nat) (x1 : Int32) (x6 : Int32) (x7 : Int32) (x8 : Int32) (s0 : Int32) (h : PH) : Option (Int32 × PH) :=
  if x8 = s0 then
    if x6 = 0 then
      some (x7, h)
    else
      some (x7 ||| (2048 : Int32), h)
  else
    bI (F_X11_floorOf x1 h) fun r3 h4 =>
    if x8 = 0 then
      F_X4_step_b179 N (-1 : Int32) r3 x7 h4
    else
      F_X4_step_b179 N (1 : Int32) r3 x7 h4
set_option maxRecDepth 20000 in
set_option maxHeartbeats 4000000 in
theorem T_X4_step_b153 {X : CT} (C : CX X 103 cX4_step 10 RX4 (some .int) 2 50) {r0 : Int32} {h0 : PH} {N : Nat} : ∀ (x1 : Int32) (x6 : Int32) (x7 : Int32) (x8 : Int32) (s0 : Int32) (h : PH), F_X4_step_b153 N x1 x6 x7 x8 s0 h = some (r0, h0) → V X (QI X r0 h0) h 153 [some (.ref 14), some (.int x1), none, none, none, none, some (.int x6), some (.int x7), some (.int x8), none] [.int s0] := by
  intro x1 x6 x7 x8 s0 h hyp
  unfold F_X4_step_b153 at hyp
  refine V_istore (pc := 153) C dX4_step_153 (by decide) rfl ?_
  refine V_iload (pc := 155) C dX4_step_155 rfl ?_
  refine V_iload (pc := 157) C dX4_step_157 rfl ?_
  refine V_icmp_eq (pc := 159) C dX4_step_159 (tgt := 184) (by decide) (fun q1 => ?_) (fun q1 => ?_)
  · replace hyp := (if_pos q1).symm.trans hyp
    refine V_iload (pc := 184) C dX4_step_184 rfl ?_
    refine V_if_eq (pc := 186) C dX4_step_186 (tgt := 198) (by decide) (fun q2 => ?_) (fun q2 => ?_)
    · replace hyp := (if_pos q2).symm.trans hyp
      refine V_iload (pc := 198) C dX4_step_198 rfl ?_
      cases hyp
      exact V_iret C dX4_step_200
    · replace hyp := (if_neg q2).symm.trans hyp
      refine V_iload (pc := 189) C dX4_step_189 rfl ?_
      refine V_sipush (pc := 191) C dX4_step_191 (v := 2048) (by decide) ?_
      refine V_ior (pc := 194) C dX4_step_194 ?_
      refine V_goto (pc := 195) C dX4_step_195 (tgt := 200) (by decide) ?_
      cases hyp
      exact V_iret C dX4_step_200
  · replace hyp := (if_neg q1).symm.trans hyp
    refine V_aload_n (pc := 162) C dX4_step_162 rfl ?_
    refine V_iload (pc := 163) C dX4_step_163 rfl ?_
    refine V_iload_n (pc := 165) C dX4_step_165 rfl ?_
    obtain ⟨r3, h4, eh4, hyp⟩ := bI_n hyp
    refine V_nstI (pc := 166) C dX4_step_166 ln_X4_45 ms_X11_floorOf (M_X11_floorOf _ eh4) rfl pd_X11_floorOf (by decide) (by decide) (by decide) (As := [.int x1]) (rest := [.int x7, .ref 14]) rfl (Nat.le_of_ble_eq_true rfl) ?_
    refine V_iload (pc := 169) C dX4_step_169 rfl ?_
    refine V_if_eq (pc := 171) C dX4_step_171 (tgt := 178) (by decide) (fun q5 => ?_) (fun q5 => ?_)
    · replace hyp := (if_pos q5).symm.trans hyp
      refine V_iconst (pc := 178) C dX4_step_178 (v := -1) (by decide) ?_
      refine V_weak (lv' := [none, none, none, none, none, none, none, none, none, none]) (lvle_n (lvle_n (lvle_n (lvle_n (lvle_n (lvle_n (lvle_n (lvle_n (lvle_n (lvle_n lvle_0)))))))))) ?_
      exact (T_X4_step_b179 C) (-1 : Int32) r3 x7 h4 hyp
    · replace hyp := (if_neg q5).symm.trans hyp
      refine V_iconst (pc := 174) C dX4_step_174 (v := 1) (by decide) ?_
      refine V_goto (pc := 175) C dX4_step_175 (tgt := 179) (by decide) ?_
      refine V_weak (lv' := [none, none, none, none, none, none, none, none, none, none]) (lvle_n (lvle_n (lvle_n (lvle_n (lvle_n (lvle_n (lvle_n (lvle_n (lvle_n (lvle_n lvle_0)))))))))) ?_
      exact (T_X4_step_b179 C) (1 : Int32) r3 x7 h4 hyp
def F_X4_step_b132 (N : Nat) (x1 : Int32) (x5 : Int32) (x6 : Int32) (x7 : Int32) (s0 : Int32) (h : PH) : Option (Int32 × PH) :=
  bI (F_X2_value N 15 (9 : Int32) x5 h) fun r1 h2 =>
  if r1 = 0 then
    F_X4_step_b153 N x1 x6 x7 s0 (0 : Int32) h2
  else
    F_X4_step_b153 N x1 x6 x7 s0 (1 : Int32) h2
set_option maxRecDepth 20000 in
set_option maxHeartbeats 4000000 in
theorem T_X4_step_b132 {X : CT} (C : CX X 103 cX4_step 10 RX4 (some .int) 2 50) {r0 : Int32} {h0 : PH} {N : Nat} : ∀ (x1 : Int32) (x5 : Int32) (x6 : Int32) (x7 : Int32) (s0 : Int32) (h : PH), F_X4_step_b132 N x1 x5 x6 x7 s0 h = some (r0, h0) → V X (QI X r0 h0) h 132 [some (.ref 14), some (.int x1), none, none, none, some (.int x5), some (.int x6), some (.int x7), none, none] [.int s0] := by
  intro x1 x5 x6 x7 s0 h hyp
  unfold F_X4_step_b132 at hyp
  refine V_istore (pc := 132) C dX4_step_132 (by decide) rfl ?_
  refine V_aload_n (pc := 134) C dX4_step_134 rfl ?_
  refine V_getR (pc := 135) C dX4_step_135 lf_X4_12 fk_14_0 ?_
  refine V_bipush (pc := 138) C dX4_step_138 (v := 9) (by decide) ?_
  refine V_iload (pc := 140) C dX4_step_140 rfl ?_
  obtain ⟨r1, h2, eh2, hyp⟩ := bI_n hyp
  refine V_callI (pc := 142) C dX4_step_142 lm_X4_42 mk_X2_value ok_15 rfl (M_X2_value _ isC_15 eh2) rfl pd_X2_value (by decide) (by decide) (by decide) (As := [.int (9 : Int32), .int x5]) (rest := []) rfl (Nat.le_of_ble_eq_true rfl) ?_
  refine V_if_eq (pc := 145) C dX4_step_145 (tgt := 152) (by decide) (fun q3 => ?_) (fun q3 => ?_)
  · replace hyp := (if_pos q3).symm.trans hyp
    refine V_iconst (pc := 152) C dX4_step_152 (v := 0) (by decide) ?_
    refine V_weak (lv' := [some (.ref 14), some (.int x1), none, none, none, none, some (.int x6), some (.int x7), some (.int s0), none]) (lvle_s (lvle_s (lvle_n (lvle_n (lvle_n (lvle_n (lvle_s (lvle_s (lvle_s (lvle_n lvle_0)))))))))) ?_
    exact (T_X4_step_b153 C) x1 x6 x7 s0 (0 : Int32) h2 hyp
  · replace hyp := (if_neg q3).symm.trans hyp
    refine V_iconst (pc := 148) C dX4_step_148 (v := 1) (by decide) ?_
    refine V_goto (pc := 149) C dX4_step_149 (tgt := 153) (by decide) ?_
    refine V_weak (lv' := [some (.ref 14), some (.int x1), none, none, none, none, some (.int x6), some (.int x7), some (.int s0), none]) (lvle_s (lvle_s (lvle_n (lvle_n (lvle_n (lvle_n (lvle_s (lvle_s (lvle_s (lvle_n lvle_0)))))))))) ?_
    exact (T_X4_step_b153 C) x1 x6 x7 s0 (1 : Int32) h2 hyp
def F_X4_step_b76 (N : Nat) (x1 : Int32) (x4 : Int32) (x5 : Int32) (s0 : Int32) (h : PH) : Option (Int32 × PH) :=
  ib ((x1 &&& (-256 : Int32)) ||| x4) fun v1 =>
  if (x1 &&& (2048 : Int32)) = 0 then
    bI (F_X2_value N 15 (8 : Int32) x5 h) fun r3 h4 =>
    if r3 = 0 then
      F_X4_step_b132 N x1 x5 s0 v1 (0 : Int32) h4
    else
      F_X4_step_b132 N x1 x5 s0 v1 (1 : Int32) h4
  else
    if s0 = 0 then
      some (v1 &&& (-2049 : Int32), h)
    else
      some (v1, h)
set_option maxRecDepth 20000 in
set_option maxHeartbeats 4000000 in
theorem T_X4_step_b76 {X : CT} (C : CX X 103 cX4_step 10 RX4 (some .int) 2 50) {r0 : Int32} {h0 : PH} {N : Nat} : ∀ (x1 : Int32) (x4 : Int32) (x5 : Int32) (s0 : Int32) (h : PH), F_X4_step_b76 N x1 x4 x5 s0 h = some (r0, h0) → V X (QI X r0 h0) h 76 [some (.ref 14), some (.int x1), none, none, some (.int x4), some (.int x5), none, none, none, none] [.int s0] := by
  intro x1 x4 x5 s0 h hyp
  unfold F_X4_step_b76 at hyp
  refine V_istore (pc := 76) C dX4_step_76 (by decide) rfl ?_
  refine V_iload_n (pc := 78) C dX4_step_78 rfl ?_
  refine V_sipush (pc := 79) C dX4_step_79 (v := -256) (by decide) ?_
  refine V_iand (pc := 82) C dX4_step_82 ?_
  refine V_iload (pc := 83) C dX4_step_83 rfl ?_
  refine V_ior (pc := 85) C dX4_step_85 ?_
  obtain ⟨v1, ev1, hyp⟩ := ib_n hyp
  refine V_topI ev1 ?_
  refine V_istore (pc := 86) C dX4_step_86 (by decide) rfl ?_
  refine V_iload_n (pc := 88) C dX4_step_88 rfl ?_
  refine V_sipush (pc := 89) C dX4_step_89 (v := 2048) (by decide) ?_
  refine V_iand (pc := 92) C dX4_step_92 ?_
  refine V_if_eq (pc := 93) C dX4_step_93 (tgt := 113) (by decide) (fun q2 => ?_) (fun q2 => ?_)
  · replace hyp := (if_pos q2).symm.trans hyp
    refine V_aload_n (pc := 113) C dX4_step_113 rfl ?_
    refine V_getR (pc := 114) C dX4_step_114 lf_X4_12 fk_14_0 ?_
    refine V_bipush (pc := 117) C dX4_step_117 (v := 8) (by decide) ?_
    refine V_iload (pc := 119) C dX4_step_119 rfl ?_
    obtain ⟨r3, h4, eh4, hyp⟩ := bI_n hyp
    refine V_callI (pc := 121) C dX4_step_121 lm_X4_42 mk_X2_value ok_15 rfl (M_X2_value _ isC_15 eh4) rfl pd_X2_value (by decide) (by decide) (by decide) (As := [.int (8 : Int32), .int x5]) (rest := []) rfl (Nat.le_of_ble_eq_true rfl) ?_
    refine V_if_eq (pc := 124) C dX4_step_124 (tgt := 131) (by decide) (fun q5 => ?_) (fun q5 => ?_)
    · replace hyp := (if_pos q5).symm.trans hyp
      refine V_iconst (pc := 131) C dX4_step_131 (v := 0) (by decide) ?_
      refine V_weak (lv' := [some (.ref 14), some (.int x1), none, none, none, some (.int x5), some (.int s0), some (.int v1), none, none]) (lvle_s (lvle_s (lvle_n (lvle_n (lvle_n (lvle_s (lvle_s (lvle_s (lvle_n (lvle_n lvle_0)))))))))) ?_
      exact (T_X4_step_b132 C) x1 x5 s0 v1 (0 : Int32) h4 hyp
    · replace hyp := (if_neg q5).symm.trans hyp
      refine V_iconst (pc := 127) C dX4_step_127 (v := 1) (by decide) ?_
      refine V_goto (pc := 128) C dX4_step_128 (tgt := 132) (by decide) ?_
      refine V_weak (lv' := [some (.ref 14), some (.int x1), none, none, none, some (.int x5), some (.int s0), some (.int v1), none, none]) (lvle_s (lvle_s (lvle_n (lvle_n (lvle_n (lvle_s (lvle_s (lvle_s (lvle_n (lvle_n lvle_0)))))))))) ?_
      exact (T_X4_step_b132 C) x1 x5 s0 v1 (1 : Int32) h4 hyp
  · replace hyp := (if_neg q2).symm.trans hyp
    refine V_iload (pc := 96) C dX4_step_96 rfl ?_
    refine V_if_eq (pc := 98) C dX4_step_98 (tgt := 106) (by decide) (fun q6 => ?_) (fun q6 => ?_)
    · replace hyp := (if_pos q6).symm.trans hyp
      refine V_iload (pc := 106) C dX4_step_106 rfl ?_
      refine V_sipush (pc := 108) C dX4_step_108 (v := -2049) (by decide) ?_
      refine V_iand (pc := 111) C dX4_step_111 ?_
      cases hyp
      exact V_iret C dX4_step_112
    · replace hyp := (if_neg q6).symm.trans hyp
      refine V_iload (pc := 101) C dX4_step_101 rfl ?_
      refine V_goto (pc := 103) C dX4_step_103 (tgt := 112) (by decide) ?_
      cases hyp
      exact V_iret C dX4_step_112
def F_X4_step_b47 (N : Nat) (x1 : Int32) (x3 : Int32) (x4 : Int32) (h : PH) : Option (Int32 × PH) :=
  ib ((x3 &&& (-256 : Int32)) ||| x4) fun v1 =>
  bI (F_X2_value N 15 (10 : Int32) v1 h) fun r2 h3 =>
  if r2 = 0 then
    F_X4_step_b76 N x1 x4 v1 (0 : Int32) h3
  else
    F_X4_step_b76 N x1 x4 v1 (1 : Int32) h3
set_option maxRecDepth 20000 in
set_option maxHeartbeats 4000000 in
theorem T_X4_step_b47 {X : CT} (C : CX X 103 cX4_step 10 RX4 (some .int) 2 50) {r0 : Int32} {h0 : PH} {N : Nat} : ∀ (x1 : Int32) (x3 : Int32) (x4 : Int32) (h : PH), F_X4_step_b47 N x1 x3 x4 h = some (r0, h0) → V X (QI X r0 h0) h 47 [some (.ref 14), some (.int x1), none, some (.int x3), some (.int x4), none, none, none, none, none] [] := by
  intro x1 x3 x4 h hyp
  unfold F_X4_step_b47 at hyp
  refine V_iload_n (pc := 47) C dX4_step_47 rfl ?_
  refine V_sipush (pc := 48) C dX4_step_48 (v := -256) (by decide) ?_
  refine V_iand (pc := 51) C dX4_step_51 ?_
  refine V_iload (pc := 52) C dX4_step_52 rfl ?_
  refine V_ior (pc := 54) C dX4_step_54 ?_
  obtain ⟨v1, ev1, hyp⟩ := ib_n hyp
  refine V_topI ev1 ?_
  refine V_istore (pc := 55) C dX4_step_55 (by decide) rfl ?_
  refine V_aload_n (pc := 57) C dX4_step_57 rfl ?_
  refine V_getR (pc := 58) C dX4_step_58 lf_X4_12 fk_14_0 ?_
  refine V_bipush (pc := 61) C dX4_step_61 (v := 10) (by decide) ?_
  refine V_iload (pc := 63) C dX4_step_63 rfl ?_
  obtain ⟨r2, h3, eh3, hyp⟩ := bI_n hyp
  refine V_callI (pc := 65) C dX4_step_65 lm_X4_42 mk_X2_value ok_15 rfl (M_X2_value _ isC_15 eh3) rfl pd_X2_value (by decide) (by decide) (by decide) (As := [.int (10 : Int32), .int v1]) (rest := []) rfl (Nat.le_of_ble_eq_true rfl) ?_
  refine V_if_eq (pc := 68) C dX4_step_68 (tgt := 75) (by decide) (fun q4 => ?_) (fun q4 => ?_)
  · replace hyp := (if_pos q4).symm.trans hyp
    refine V_iconst (pc := 75) C dX4_step_75 (v := 0) (by decide) ?_
    refine V_weak (lv' := [some (.ref 14), some (.int x1), none, none, some (.int x4), some (.int v1), none, none, none, none]) (lvle_s (lvle_s (lvle_n (lvle_n (lvle_s (lvle_s (lvle_n (lvle_n (lvle_n (lvle_n lvle_0)))))))))) ?_
    exact (T_X4_step_b76 C) x1 x4 v1 (0 : Int32) h3 hyp
  · replace hyp := (if_neg q4).symm.trans hyp
    refine V_iconst (pc := 71) C dX4_step_71 (v := 1) (by decide) ?_
    refine V_goto (pc := 72) C dX4_step_72 (tgt := 76) (by decide) ?_
    refine V_weak (lv' := [some (.ref 14), some (.int x1), none, none, some (.int x4), some (.int v1), none, none, none, none]) (lvle_s (lvle_s (lvle_n (lvle_n (lvle_s (lvle_s (lvle_n (lvle_n (lvle_n (lvle_n lvle_0)))))))))) ?_
    exact (T_X4_step_b76 C) x1 x4 v1 (1 : Int32) h3 hyp
def F_X4_step_b12 (N : Nat) : Nat → Int32 → Int32 → Int32 → Int32 → PH → Option (Int32 × PH)
  | 0, _, _, _, _, _ => none
  | n + 1, x1, x3, x4, x5, h =>
    if (8 : Int32) ≤ x5 then
      F_X4_step_b47 N x1 x3 x4 h
    else
      bI (F_X2_value N 15 x5 x3 h) fun r2 h3 =>
      if r2 = 0 then
        F_X4_step_b41 N (F_X4_step_b12 N n) x1 x3 x4 x5 h3
      else
        ib (x4 ||| ((1 : Int32) <<< (x5 &&& 31))) fun v5 =>
        F_X4_step_b41 N (F_X4_step_b12 N n) x1 x3 v5 x5 h3
set_option maxRecDepth 20000 in
set_option maxHeartbeats 4000000 in
theorem T_X4_step_b12 {X : CT} (C : CX X 103 cX4_step 10 RX4 (some .int) 2 50) {r0 : Int32} {h0 : PH} {N : Nat} : ∀ (n : Nat) (x1 : Int32) (x3 : Int32) (x4 : Int32) (x5 : Int32) (h : PH), F_X4_step_b12 N n x1 x3 x4 x5 h = some (r0, h0) → V X (QI X r0 h0) h 12 [some (.ref 14), some (.int x1), none, some (.int x3), some (.int x4), some (.int x5), none, none, none, none] [] := by
  intro n
  induction n with
  | zero =>
    intro x1 x3 x4 x5 h hyp
    cases hyp
  | succ n ih =>
    intro x1 x3 x4 x5 h hyp
    unfold F_X4_step_b12 at hyp
    refine V_iload (pc := 12) C dX4_step_12 rfl ?_
    refine V_bipush (pc := 14) C dX4_step_14 (v := 8) (by decide) ?_
    refine V_icmp_ge (pc := 16) C dX4_step_16 (tgt := 47) (by decide) (fun q1 => ?_) (fun q1 => ?_)
    · replace hyp := (if_pos q1).symm.trans hyp
      refine V_weak (lv' := [some (.ref 14), some (.int x1), none, some (.int x3), some (.int x4), none, none, none, none, none]) (lvle_s (lvle_s (lvle_n (lvle_s (lvle_s (lvle_n (lvle_n (lvle_n (lvle_n (lvle_n lvle_0)))))))))) ?_
      exact (T_X4_step_b47 C) x1 x3 x4 h hyp
    · replace hyp := (if_neg q1).symm.trans hyp
      refine V_aload_n (pc := 19) C dX4_step_19 rfl ?_
      refine V_getR (pc := 20) C dX4_step_20 lf_X4_12 fk_14_0 ?_
      refine V_iload (pc := 23) C dX4_step_23 rfl ?_
      refine V_iload_n (pc := 25) C dX4_step_25 rfl ?_
      obtain ⟨r2, h3, eh3, hyp⟩ := bI_n hyp
      refine V_callI (pc := 26) C dX4_step_26 lm_X4_42 mk_X2_value ok_15 rfl (M_X2_value _ isC_15 eh3) rfl pd_X2_value (by decide) (by decide) (by decide) (As := [.int x5, .int x3]) (rest := []) rfl (Nat.le_of_ble_eq_true rfl) ?_
      refine V_if_eq (pc := 29) C dX4_step_29 (tgt := 41) (by decide) (fun q4 => ?_) (fun q4 => ?_)
      · replace hyp := (if_pos q4).symm.trans hyp
        refine V_weak (lv' := [some (.ref 14), some (.int x1), none, some (.int x3), some (.int x4), some (.int x5), none, none, none, none]) (lvle_s (lvle_s (lvle_n (lvle_s (lvle_s (lvle_s (lvle_n (lvle_n (lvle_n (lvle_n lvle_0)))))))))) ?_
        exact (T_X4_step_b41 C ih) x1 x3 x4 x5 h3 hyp
      · replace hyp := (if_neg q4).symm.trans hyp
        refine V_iload (pc := 32) C dX4_step_32 rfl ?_
        refine V_iconst (pc := 34) C dX4_step_34 (v := 1) (by decide) ?_
        refine V_iload (pc := 35) C dX4_step_35 rfl ?_
        refine V_ishl (pc := 37) C dX4_step_37 ?_
        refine V_ior (pc := 38) C dX4_step_38 ?_
        obtain ⟨v5, ev5, hyp⟩ := ib_n hyp
        refine V_topI ev5 ?_
        refine V_istore (pc := 39) C dX4_step_39 (by decide) rfl ?_
        refine V_weak (lv' := [some (.ref 14), some (.int x1), none, some (.int x3), some (.int v5), some (.int x5), none, none, none, none]) (lvle_s (lvle_s (lvle_n (lvle_s (lvle_s (lvle_s (lvle_n (lvle_n (lvle_n (lvle_n lvle_0)))))))))) ?_
        exact (T_X4_step_b41 C ih) x1 x3 v5 x5 h3 hyp
def F_X4_step (N : Nat) (a1 : Int32) (a2 : Int32) (h : PH) : Option (Int32 × PH) :=
  bI (F_X4_factsOf a1 a2 h) fun r1 h2 =>
  F_X4_step_b12 N N a1 r1 (0 : Int32) (0 : Int32) h2
set_option maxRecDepth 20000 in
set_option maxHeartbeats 4000000 in
theorem M_X4_step (E : EV) {N : Nat} {a1 : Int32} {a2 : Int32} {r : Int32} {h h2 : PH} (hyp : F_X4_step N a1 a2 h = some (r, h2)) : MI E 103 yX4_step cX4_step 10 (some .int) 2 50 [.ref 14, .int a1, .int a2] h r h2 := by
  refine MI.of 7 (by decide) rfl (fun X e1 C => ?_)
  subst e1
  replace C : CX X 103 cX4_step 10 RX4 (some .int) 2 50 := C
  show V X _ h 0 [some (.ref 14), some (.int a1), some (.int a2), none, none, none, none, none, none, none] []
  unfold F_X4_step at hyp
  refine V_iload_n (pc := 0) C dX4_step_0 rfl ?_
  refine V_iload_n (pc := 1) C dX4_step_1 rfl ?_
  obtain ⟨r1, h2, eh2, hyp⟩ := bI_n hyp
  refine V_statI (pc := 2) C dX4_step_2 lm_X4_39 ms_X4_factsOf (M_X4_factsOf _ eh2) rfl pd_X4_factsOf (by decide) (by decide) (by decide) (As := [.int a1, .int a2]) (rest := []) rfl (Nat.le_of_ble_eq_true rfl) ?_
  refine V_istore_n (pc := 5) C dX4_step_5 (by decide) rfl ?_
  refine V_iconst (pc := 6) C dX4_step_6 (v := 0) (by decide) ?_
  refine V_istore (pc := 7) C dX4_step_7 (by decide) rfl ?_
  refine V_iconst (pc := 9) C dX4_step_9 (v := 0) (by decide) ?_
  refine V_istore (pc := 10) C dX4_step_10 (by decide) rfl ?_
  refine V_weak (lv' := [some (.ref 14), some (.int a1), none, some (.int r1), some (.int (0 : Int32)), some (.int (0 : Int32)), none, none, none, none]) (lvle_s (lvle_s (lvle_n (lvle_s (lvle_s (lvle_s (lvle_n (lvle_n (lvle_n (lvle_n lvle_0)))))))))) ?_
  exact (T_X4_step_b12 C) N a1 r1 (0 : Int32) (0 : Int32) h2 hyp
theorem dX4_lampsIn_0 : decode cX4_lampsIn 0 = .ok (.iload_n 1, 1) := by decide +kernel
theorem dX4_lampsIn_1 : decode cX4_lampsIn 1 = .ok (.iconst (-1), 1) := by decide +kernel
theorem dX4_lampsIn_2 : decode cX4_lampsIn 2 = .ok (.invokestatic 39, 3) := by decide +kernel
theorem dX4_lampsIn_5 : decode cX4_lampsIn 5 = .ok (.istore_n 2, 1) := by decide +kernel
theorem dX4_lampsIn_6 : decode cX4_lampsIn 6 = .ok (.iconst 0, 1) := by decide +kernel
theorem dX4_lampsIn_7 : decode cX4_lampsIn 7 = .ok (.istore_n 3, 1) := by decide +kernel
theorem dX4_lampsIn_8 : decode cX4_lampsIn 8 = .ok (.iconst 0, 1) := by decide +kernel
theorem dX4_lampsIn_9 : decode cX4_lampsIn 9 = .ok (.istore 4, 2) := by decide +kernel
theorem dX4_lampsIn_11 : decode cX4_lampsIn 11 = .ok (.iload 4, 2) := by decide +kernel
theorem dX4_lampsIn_13 : decode cX4_lampsIn 13 = .ok (.bipush 8, 2) := by decide +kernel
theorem dX4_lampsIn_15 : decode cX4_lampsIn 15 = .ok (.if_icmp .ge 32, 3) := by decide +kernel
theorem dX4_lampsIn_18 : decode cX4_lampsIn 18 = .ok (.aload_n 0, 1) := by decide +kernel
theorem dX4_lampsIn_19 : decode cX4_lampsIn 19 = .ok (.getfield 12, 3) := by decide +kernel
theorem dX4_lampsIn_22 : decode cX4_lampsIn 22 = .ok (.bipush 11, 2) := by decide +kernel
theorem dX4_lampsIn_24 : decode cX4_lampsIn 24 = .ok (.iload 4, 2) := by decide +kernel
theorem dX4_lampsIn_26 : decode cX4_lampsIn 26 = .ok (.iadd, 1) := by decide +kernel
theorem dX4_lampsIn_27 : decode cX4_lampsIn 27 = .ok (.iload_n 2, 1) := by decide +kernel
theorem dX4_lampsIn_28 : decode cX4_lampsIn 28 = .ok (.invokevirtual 42, 3) := by decide +kernel
theorem dX4_lampsIn_31 : decode cX4_lampsIn 31 = .ok (.ifCond .eq 10, 3) := by decide +kernel
theorem dX4_lampsIn_34 : decode cX4_lampsIn 34 = .ok (.iload_n 3, 1) := by decide +kernel
theorem dX4_lampsIn_35 : decode cX4_lampsIn 35 = .ok (.iconst 1, 1) := by decide +kernel
theorem dX4_lampsIn_36 : decode cX4_lampsIn 36 = .ok (.iload 4, 2) := by decide +kernel
theorem dX4_lampsIn_38 : decode cX4_lampsIn 38 = .ok (.ishl, 1) := by decide +kernel
theorem dX4_lampsIn_39 : decode cX4_lampsIn 39 = .ok (.ior, 1) := by decide +kernel
theorem dX4_lampsIn_40 : decode cX4_lampsIn 40 = .ok (.istore_n 3, 1) := by decide +kernel
theorem dX4_lampsIn_41 : decode cX4_lampsIn 41 = .ok (.iinc 4 1, 3) := by decide +kernel
theorem dX4_lampsIn_44 : decode cX4_lampsIn 44 = .ok (.goto (-33), 3) := by decide +kernel
theorem dX4_lampsIn_47 : decode cX4_lampsIn 47 = .ok (.iload_n 3, 1) := by decide +kernel
theorem dX4_lampsIn_48 : decode cX4_lampsIn 48 = .ok (.ireturn, 1) := by decide +kernel
def F_X4_lampsIn_b41 (N : Nat) (rc11 : Int32 → Int32 → Int32 → PH → Option (Int32 × PH)) (x2 : Int32) (x3 : Int32) (x4 : Int32) (h : PH) : Option (Int32 × PH) :=
  ib (x4 + (1 : Int32)) fun v1 =>
  rc11 x2 x3 v1 h
set_option maxRecDepth 20000 in
set_option maxHeartbeats 4000000 in
theorem T_X4_lampsIn_b41 {X : CT} (C : CX X 103 cX4_lampsIn 5 RX4 (some .int) 2 50) {r0 : Int32} {h0 : PH} {N : Nat} {rc11 : Int32 → Int32 → Int32 → PH → Option (Int32 × PH)} (hr11 : ∀ (x2 : Int32) (x3 : Int32) (x4 : Int32) (h : PH), rc11 x2 x3 x4 h = some (r0, h0) → V X (QI X r0 h0) h 11 [some (.ref 14), none, some (.int x2), some (.int x3), some (.int x4)] []) : ∀ (x2 : Int32) (x3 : Int32) (x4 : Int32) (h : PH), F_X4_lampsIn_b41 N rc11 x2 x3 x4 h = some (r0, h0) → V X (QI X r0 h0) h 41 [some (.ref 14), none, some (.int x2), some (.int x3), some (.int x4)] [] := by
  intro x2 x3 x4 h hyp
  unfold F_X4_lampsIn_b41 at hyp
  obtain ⟨v1, ev1, hyp⟩ := ib_n hyp
  refine V_iinc (pc := 41) C dX4_lampsIn_41 (v := v1) rfl (by rw [ev1]; rfl) (by decide) rfl ?_
  refine V_goto (pc := 44) C dX4_lampsIn_44 (tgt := 11) (by decide) ?_
  refine V_weak (lv' := [some (.ref 14), none, some (.int x2), some (.int x3), some (.int v1)]) (lvle_s (lvle_n (lvle_s (lvle_s (lvle_s lvle_0))))) ?_
  exact hr11 x2 x3 v1 h hyp
def F_X4_lampsIn_b11 (N : Nat) : Nat → Int32 → Int32 → Int32 → PH → Option (Int32 × PH)
  | 0, _, _, _, _ => none
  | n + 1, x2, x3, x4, h =>
    if (8 : Int32) ≤ x4 then
      some (x3, h)
    else
      bI (F_X2_value N 15 ((11 : Int32) + x4) x2 h) fun r2 h3 =>
      if r2 = 0 then
        F_X4_lampsIn_b41 N (F_X4_lampsIn_b11 N n) x2 x3 x4 h3
      else
        ib (x3 ||| ((1 : Int32) <<< (x4 &&& 31))) fun v5 =>
        F_X4_lampsIn_b41 N (F_X4_lampsIn_b11 N n) x2 v5 x4 h3
set_option maxRecDepth 20000 in
set_option maxHeartbeats 4000000 in
theorem T_X4_lampsIn_b11 {X : CT} (C : CX X 103 cX4_lampsIn 5 RX4 (some .int) 2 50) {r0 : Int32} {h0 : PH} {N : Nat} : ∀ (n : Nat) (x2 : Int32) (x3 : Int32) (x4 : Int32) (h : PH), F_X4_lampsIn_b11 N n x2 x3 x4 h = some (r0, h0) → V X (QI X r0 h0) h 11 [some (.ref 14), none, some (.int x2), some (.int x3), some (.int x4)] [] := by
  intro n
  induction n with
  | zero =>
    intro x2 x3 x4 h hyp
    cases hyp
  | succ n ih =>
    intro x2 x3 x4 h hyp
    unfold F_X4_lampsIn_b11 at hyp
    refine V_iload (pc := 11) C dX4_lampsIn_11 rfl ?_
    refine V_bipush (pc := 13) C dX4_lampsIn_13 (v := 8) (by decide) ?_
    refine V_icmp_ge (pc := 15) C dX4_lampsIn_15 (tgt := 47) (by decide) (fun q1 => ?_) (fun q1 => ?_)
    · replace hyp := (if_pos q1).symm.trans hyp
      refine V_iload_n (pc := 47) C dX4_lampsIn_47 rfl ?_
      cases hyp
      exact V_iret C dX4_lampsIn_48
    · replace hyp := (if_neg q1).symm.trans hyp
      refine V_aload_n (pc := 18) C dX4_lampsIn_18 rfl ?_
      refine V_getR (pc := 19) C dX4_lampsIn_19 lf_X4_12 fk_14_0 ?_
      refine V_bipush (pc := 22) C dX4_lampsIn_22 (v := 11) (by decide) ?_
      refine V_iload (pc := 24) C dX4_lampsIn_24 rfl ?_
      refine V_iadd (pc := 26) C dX4_lampsIn_26 ?_
      refine V_iload_n (pc := 27) C dX4_lampsIn_27 rfl ?_
      obtain ⟨r2, h3, eh3, hyp⟩ := bI_n hyp
      refine V_callI (pc := 28) C dX4_lampsIn_28 lm_X4_42 mk_X2_value ok_15 rfl (M_X2_value _ isC_15 eh3) rfl pd_X2_value (by decide) (by decide) (by decide) (As := [.int ((11 : Int32) + x4), .int x2]) (rest := []) rfl (Nat.le_of_ble_eq_true rfl) ?_
      refine V_if_eq (pc := 31) C dX4_lampsIn_31 (tgt := 41) (by decide) (fun q4 => ?_) (fun q4 => ?_)
      · replace hyp := (if_pos q4).symm.trans hyp
        refine V_weak (lv' := [some (.ref 14), none, some (.int x2), some (.int x3), some (.int x4)]) (lvle_s (lvle_n (lvle_s (lvle_s (lvle_s lvle_0))))) ?_
        exact (T_X4_lampsIn_b41 C ih) x2 x3 x4 h3 hyp
      · replace hyp := (if_neg q4).symm.trans hyp
        refine V_iload_n (pc := 34) C dX4_lampsIn_34 rfl ?_
        refine V_iconst (pc := 35) C dX4_lampsIn_35 (v := 1) (by decide) ?_
        refine V_iload (pc := 36) C dX4_lampsIn_36 rfl ?_
        refine V_ishl (pc := 38) C dX4_lampsIn_38 ?_
        refine V_ior (pc := 39) C dX4_lampsIn_39 ?_
        obtain ⟨v5, ev5, hyp⟩ := ib_n hyp
        refine V_topI ev5 ?_
        refine V_istore_n (pc := 40) C dX4_lampsIn_40 (by decide) rfl ?_
        refine V_weak (lv' := [some (.ref 14), none, some (.int x2), some (.int v5), some (.int x4)]) (lvle_s (lvle_n (lvle_s (lvle_s (lvle_s lvle_0))))) ?_
        exact (T_X4_lampsIn_b41 C ih) x2 v5 x4 h3 hyp
def F_X4_lampsIn (N : Nat) (a1 : Int32) (h : PH) : Option (Int32 × PH) :=
  bI (F_X4_factsOf a1 (-1 : Int32) h) fun r1 h2 =>
  F_X4_lampsIn_b11 N N r1 (0 : Int32) (0 : Int32) h2
set_option maxRecDepth 20000 in
set_option maxHeartbeats 4000000 in
theorem M_X4_lampsIn (E : EV) {N : Nat} {a1 : Int32} {r : Int32} {h h2 : PH} (hyp : F_X4_lampsIn N a1 h = some (r, h2)) : MI E 103 yX4_lampsIn cX4_lampsIn 5 (some .int) 2 50 [.ref 14, .int a1] h r h2 := by
  refine MI.of 3 (by decide) rfl (fun X e1 C => ?_)
  subst e1
  replace C : CX X 103 cX4_lampsIn 5 RX4 (some .int) 2 50 := C
  show V X _ h 0 [some (.ref 14), some (.int a1), none, none, none] []
  unfold F_X4_lampsIn at hyp
  refine V_iload_n (pc := 0) C dX4_lampsIn_0 rfl ?_
  refine V_iconst (pc := 1) C dX4_lampsIn_1 (v := -1) (by decide) ?_
  obtain ⟨r1, h2, eh2, hyp⟩ := bI_n hyp
  refine V_statI (pc := 2) C dX4_lampsIn_2 lm_X4_39 ms_X4_factsOf (M_X4_factsOf _ eh2) rfl pd_X4_factsOf (by decide) (by decide) (by decide) (As := [.int a1, .int (-1 : Int32)]) (rest := []) rfl (Nat.le_of_ble_eq_true rfl) ?_
  refine V_istore_n (pc := 5) C dX4_lampsIn_5 (by decide) rfl ?_
  refine V_iconst (pc := 6) C dX4_lampsIn_6 (v := 0) (by decide) ?_
  refine V_istore_n (pc := 7) C dX4_lampsIn_7 (by decide) rfl ?_
  refine V_iconst (pc := 8) C dX4_lampsIn_8 (v := 0) (by decide) ?_
  refine V_istore (pc := 9) C dX4_lampsIn_9 (by decide) rfl ?_
  refine V_weak (lv' := [some (.ref 14), none, some (.int r1), some (.int (0 : Int32)), some (.int (0 : Int32))]) (lvle_s (lvle_n (lvle_s (lvle_s (lvle_s lvle_0))))) ?_
  exact (T_X4_lampsIn_b11 C) N r1 (0 : Int32) (0 : Int32) h2 hyp
theorem dX4_tick_0 : decode cX4_tick 0 = .ok (.aload_n 0, 1) := by decide +kernel
theorem dX4_tick_1 : decode cX4_tick 1 = .ok (.aload_n 0, 1) := by decide +kernel
theorem dX4_tick_2 : decode cX4_tick 2 = .ok (.getfield 18, 3) := by decide +kernel
theorem dX4_tick_5 : decode cX4_tick 5 = .ok (.iload_n 1, 1) := by decide +kernel
theorem dX4_tick_6 : decode cX4_tick 6 = .ok (.invokevirtual 31, 3) := by decide +kernel
theorem dX4_tick_9 : decode cX4_tick 9 = .ok (.istore_n 2, 1) := by decide +kernel
theorem dX4_tick_10 : decode cX4_tick 10 = .ok (.iload_n 2, 1) := by decide +kernel
theorem dX4_tick_11 : decode cX4_tick 11 = .ok (.sipush 4096, 3) := by decide +kernel
theorem dX4_tick_14 : decode cX4_tick 14 = .ok (.iand, 1) := by decide +kernel
theorem dX4_tick_15 : decode cX4_tick 15 = .ok (.ifCond .eq 13, 3) := by decide +kernel
theorem dX4_tick_18 : decode cX4_tick 18 = .ok (.aload_n 0, 1) := by decide +kernel
theorem dX4_tick_19 : decode cX4_tick 19 = .ok (.dup, 1) := by decide +kernel
theorem dX4_tick_20 : decode cX4_tick 20 = .ok (.getfield 22, 3) := by decide +kernel
theorem dX4_tick_23 : decode cX4_tick 23 = .ok (.iconst 1, 1) := by decide +kernel
theorem dX4_tick_24 : decode cX4_tick 24 = .ok (.iadd, 1) := by decide +kernel
theorem dX4_tick_25 : decode cX4_tick 25 = .ok (.putfield 22, 3) := by decide +kernel
theorem dX4_tick_28 : decode cX4_tick 28 = .ok (.aload_n 0, 1) := by decide +kernel
theorem dX4_tick_29 : decode cX4_tick 29 = .ok (.dup, 1) := by decide +kernel
theorem dX4_tick_30 : decode cX4_tick 30 = .ok (.getfield 25, 3) := by decide +kernel
theorem dX4_tick_33 : decode cX4_tick 33 = .ok (.iconst 1, 1) := by decide +kernel
theorem dX4_tick_34 : decode cX4_tick 34 = .ok (.iadd, 1) := by decide +kernel
theorem dX4_tick_35 : decode cX4_tick 35 = .ok (.putfield 25, 3) := by decide +kernel
theorem dX4_tick_38 : decode cX4_tick 38 = .ok (.aload_n 0, 1) := by decide +kernel
theorem dX4_tick_39 : decode cX4_tick 39 = .ok (.iload_n 2, 1) := by decide +kernel
theorem dX4_tick_40 : decode cX4_tick 40 = .ok (.sipush (-4097), 3) := by decide +kernel
theorem dX4_tick_43 : decode cX4_tick 43 = .ok (.iand, 1) := by decide +kernel
theorem dX4_tick_44 : decode cX4_tick 44 = .ok (.putfield 18, 3) := by decide +kernel
theorem dX4_tick_47 : decode cX4_tick 47 = .ok (.aload_n 0, 1) := by decide +kernel
theorem dX4_tick_48 : decode cX4_tick 48 = .ok (.aload_n 0, 1) := by decide +kernel
theorem dX4_tick_49 : decode cX4_tick 49 = .ok (.getfield 18, 3) := by decide +kernel
theorem dX4_tick_52 : decode cX4_tick 52 = .ok (.invokevirtual 35, 3) := by decide +kernel
theorem dX4_tick_55 : decode cX4_tick 55 = .ok (.ireturn, 1) := by decide +kernel
def F_X4_tick_b28 (N : Nat) (x2 : Int32) (h : PH) : Option (Int32 × PH) :=
  hb (hs h 14 4 ((h.1 14 4) + (1 : Int32))) fun h1 =>
  hb (hs h1 14 2 (x2 &&& (-4097 : Int32))) fun h2 =>
  bI (F_X4_lampsIn N (h2.1 14 2) h2) fun r3 h4 =>
  some (r3, h4)
set_option maxRecDepth 20000 in
set_option maxHeartbeats 4000000 in
theorem T_X4_tick_b28 {X : CT} (C : CX X 103 cX4_tick 3 RX4 (some .int) 3 79) {r0 : Int32} {h0 : PH} {N : Nat} : ∀ (x2 : Int32) (h : PH), F_X4_tick_b28 N x2 h = some (r0, h0) → V X (QI X r0 h0) h 28 [some (.ref 14), none, some (.int x2)] [] := by
  intro x2 h hyp
  unfold F_X4_tick_b28 at hyp
  refine V_aload_n (pc := 28) C dX4_tick_28 rfl ?_
  refine V_dup (pc := 29) C dX4_tick_29 rfl ?_
  refine V_getI (pc := 30) C dX4_tick_30 lf_X4_25 fk_14_4 ?_
  refine V_iconst (pc := 33) C dX4_tick_33 (v := 1) (by decide) ?_
  refine V_iadd (pc := 34) C dX4_tick_34 ?_
  obtain ⟨h1, eh1, hyp⟩ := hb_n hyp
  refine V_putI (pc := 35) C dX4_tick_35 lf_X4_25 fk_14_4 rfl rfl eh1 ?_
  refine V_aload_n (pc := 38) C dX4_tick_38 rfl ?_
  refine V_iload_n (pc := 39) C dX4_tick_39 rfl ?_
  refine V_sipush (pc := 40) C dX4_tick_40 (v := -4097) (by decide) ?_
  refine V_iand (pc := 43) C dX4_tick_43 ?_
  obtain ⟨h2, eh2, hyp⟩ := hb_n hyp
  refine V_putI (pc := 44) C dX4_tick_44 lf_X4_18 fk_14_2 rfl rfl eh2 ?_
  refine V_aload_n (pc := 47) C dX4_tick_47 rfl ?_
  refine V_aload_n (pc := 48) C dX4_tick_48 rfl ?_
  refine V_getI (pc := 49) C dX4_tick_49 lf_X4_18 fk_14_2 ?_
  obtain ⟨r3, h4, eh4, hyp⟩ := bI_n hyp
  refine V_callI (pc := 52) C dX4_tick_52 lm_X4_35 mk_X4_lampsIn ok_14 rfl (M_X4_lampsIn _ eh4) rfl pd_X4_lampsIn (by decide) (by decide) (by decide) (As := [.int (h2.1 14 2)]) (rest := []) rfl (Nat.le_of_ble_eq_true rfl) ?_
  cases hyp
  exact V_iret C dX4_tick_55
def F_X4_tick (N : Nat) (a1 : Int32) (h : PH) : Option (Int32 × PH) :=
  bI (F_X4_step N (h.1 14 2) a1 h) fun r1 h2 =>
  if (r1 &&& (4096 : Int32)) = 0 then
    F_X4_tick_b28 N r1 h2
  else
    hb (hs h2 14 3 ((h2.1 14 3) + (1 : Int32))) fun h4 =>
    F_X4_tick_b28 N r1 h4
set_option maxRecDepth 20000 in
set_option maxHeartbeats 4000000 in
theorem M_X4_tick (E : EV) {N : Nat} {a1 : Int32} {r : Int32} {h h2 : PH} (hyp : F_X4_tick N a1 h = some (r, h2)) : MI E 103 yX4_tick cX4_tick 3 (some .int) 3 79 [.ref 14, .int a1] h r h2 := by
  refine MI.of 1 (by decide) rfl (fun X e1 C => ?_)
  subst e1
  replace C : CX X 103 cX4_tick 3 RX4 (some .int) 3 79 := C
  show V X _ h 0 [some (.ref 14), some (.int a1), none] []
  unfold F_X4_tick at hyp
  refine V_aload_n (pc := 0) C dX4_tick_0 rfl ?_
  refine V_aload_n (pc := 1) C dX4_tick_1 rfl ?_
  refine V_getI (pc := 2) C dX4_tick_2 lf_X4_18 fk_14_2 ?_
  refine V_iload_n (pc := 5) C dX4_tick_5 rfl ?_
  obtain ⟨r1, h2, eh2, hyp⟩ := bI_n hyp
  refine V_callI (pc := 6) C dX4_tick_6 lm_X4_31 mk_X4_step ok_14 rfl (M_X4_step _ eh2) rfl pd_X4_step (by decide) (by decide) (by decide) (As := [.int (h.1 14 2), .int a1]) (rest := []) rfl (Nat.le_of_ble_eq_true rfl) ?_
  refine V_istore_n (pc := 9) C dX4_tick_9 (by decide) rfl ?_
  refine V_iload_n (pc := 10) C dX4_tick_10 rfl ?_
  refine V_sipush (pc := 11) C dX4_tick_11 (v := 4096) (by decide) ?_
  refine V_iand (pc := 14) C dX4_tick_14 ?_
  refine V_if_eq (pc := 15) C dX4_tick_15 (tgt := 28) (by decide) (fun q3 => ?_) (fun q3 => ?_)
  · replace hyp := (if_pos q3).symm.trans hyp
    refine V_weak (lv' := [some (.ref 14), none, some (.int r1)]) (lvle_s (lvle_n (lvle_s lvle_0))) ?_
    exact (T_X4_tick_b28 C) r1 h2 hyp
  · replace hyp := (if_neg q3).symm.trans hyp
    refine V_aload_n (pc := 18) C dX4_tick_18 rfl ?_
    refine V_dup (pc := 19) C dX4_tick_19 rfl ?_
    refine V_getI (pc := 20) C dX4_tick_20 lf_X4_22 fk_14_3 ?_
    refine V_iconst (pc := 23) C dX4_tick_23 (v := 1) (by decide) ?_
    refine V_iadd (pc := 24) C dX4_tick_24 ?_
    obtain ⟨h4, eh4, hyp⟩ := hb_n hyp
    refine V_putI (pc := 25) C dX4_tick_25 lf_X4_22 fk_14_3 rfl rfl eh4 ?_
    refine V_weak (lv' := [some (.ref 14), none, some (.int r1)]) (lvle_s (lvle_n (lvle_s lvle_0))) ?_
    exact (T_X4_tick_b28 C) r1 h4 hyp
theorem dX4_breaksNever_0 : decode cX4_breaksNever 0 = .ok (.aload_n 0, 1) := by decide +kernel
theorem dX4_breaksNever_1 : decode cX4_breaksNever 1 = .ok (.getfield 12, 3) := by decide +kernel
theorem dX4_breaksNever_4 : decode cX4_breaksNever 4 = .ok (.bipush 19, 2) := by decide +kernel
theorem dX4_breaksNever_6 : decode cX4_breaksNever 6 = .ok (.iload_n 2, 1) := by decide +kernel
theorem dX4_breaksNever_7 : decode cX4_breaksNever 7 = .ok (.iadd, 1) := by decide +kernel
theorem dX4_breaksNever_8 : decode cX4_breaksNever 8 = .ok (.iload_n 1, 1) := by decide +kernel
theorem dX4_breaksNever_9 : decode cX4_breaksNever 9 = .ok (.iconst (-1), 1) := by decide +kernel
theorem dX4_breaksNever_10 : decode cX4_breaksNever 10 = .ok (.invokestatic 39, 3) := by decide +kernel
theorem dX4_breaksNever_13 : decode cX4_breaksNever 13 = .ok (.invokevirtual 42, 3) := by decide +kernel
theorem dX4_breaksNever_16 : decode cX4_breaksNever 16 = .ok (.ifCond .eq 7, 3) := by decide +kernel
theorem dX4_breaksNever_19 : decode cX4_breaksNever 19 = .ok (.iconst 1, 1) := by decide +kernel
theorem dX4_breaksNever_20 : decode cX4_breaksNever 20 = .ok (.goto 4, 3) := by decide +kernel
theorem dX4_breaksNever_23 : decode cX4_breaksNever 23 = .ok (.iconst 0, 1) := by decide +kernel
theorem dX4_breaksNever_24 : decode cX4_breaksNever 24 = .ok (.ireturn, 1) := by decide +kernel
def F_X4_breaksNever (N : Nat) (a1 : Int32) (a2 : Int32) (h : PH) : Option (Int32 × PH) :=
  bI (F_X4_factsOf a1 (-1 : Int32) h) fun r1 h2 =>
  bI (F_X2_value N 15 ((19 : Int32) + a2) r1 h2) fun r3 h4 =>
  if r3 = 0 then
    some ((0 : Int32), h4)
  else
    some ((1 : Int32), h4)
set_option maxRecDepth 20000 in
set_option maxHeartbeats 4000000 in
theorem M_X4_breaksNever (E : EV) {N : Nat} {a1 : Int32} {a2 : Int32} {r : Int32} {h h2 : PH} (hyp : F_X4_breaksNever N a1 a2 h = some (r, h2)) : MI E 103 yX4_breaksNever cX4_breaksNever 3 (some .boolean) 2 50 [.ref 14, .int a1, .int a2] h r h2 := by
  refine MI.of 0 (by decide) rfl (fun X e1 C => ?_)
  subst e1
  replace C : CX X 103 cX4_breaksNever 3 RX4 (some .boolean) 2 50 := C
  show V X _ h 0 [some (.ref 14), some (.int a1), some (.int a2)] []
  unfold F_X4_breaksNever at hyp
  refine V_aload_n (pc := 0) C dX4_breaksNever_0 rfl ?_
  refine V_getR (pc := 1) C dX4_breaksNever_1 lf_X4_12 fk_14_0 ?_
  refine V_bipush (pc := 4) C dX4_breaksNever_4 (v := 19) (by decide) ?_
  refine V_iload_n (pc := 6) C dX4_breaksNever_6 rfl ?_
  refine V_iadd (pc := 7) C dX4_breaksNever_7 ?_
  refine V_iload_n (pc := 8) C dX4_breaksNever_8 rfl ?_
  refine V_iconst (pc := 9) C dX4_breaksNever_9 (v := -1) (by decide) ?_
  obtain ⟨r1, h2, eh2, hyp⟩ := bI_n hyp
  refine V_statI (pc := 10) C dX4_breaksNever_10 lm_X4_39 ms_X4_factsOf (M_X4_factsOf _ eh2) rfl pd_X4_factsOf (by decide) (by decide) (by decide) (As := [.int a1, .int (-1 : Int32)]) (rest := [.int ((19 : Int32) + a2), .ref 15]) rfl (Nat.le_of_ble_eq_true rfl) ?_
  obtain ⟨r3, h4, eh4, hyp⟩ := bI_n hyp
  refine V_callI (pc := 13) C dX4_breaksNever_13 lm_X4_42 mk_X2_value ok_15 rfl (M_X2_value _ isC_15 eh4) rfl pd_X2_value (by decide) (by decide) (by decide) (As := [.int ((19 : Int32) + a2), .int r1]) (rest := []) rfl (Nat.le_of_ble_eq_true rfl) ?_
  refine V_if_eq (pc := 16) C dX4_breaksNever_16 (tgt := 23) (by decide) (fun q5 => ?_) (fun q5 => ?_)
  · replace hyp := (if_pos q5).symm.trans hyp
    refine V_iconst (pc := 23) C dX4_breaksNever_23 (v := 0) (by decide) ?_
    cases hyp
    exact V_zret C dX4_breaksNever_24 rfl
  · replace hyp := (if_neg q5).symm.trans hyp
    refine V_iconst (pc := 19) C dX4_breaksNever_19 (v := 1) (by decide) ?_
    refine V_goto (pc := 20) C dX4_breaksNever_20 (tgt := 24) (by decide) ?_
    cases hyp
    exact V_zret C dX4_breaksNever_24 rfl
