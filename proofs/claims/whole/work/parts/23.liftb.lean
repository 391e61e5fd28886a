theorem dX11_trip_0 : decode cX11_trip 0 = .ok (.aload_n 0, 1) := by decide +kernel
theorem dX11_trip_1 : decode cX11_trip 1 = .ok (.iload_n 1, 1) := by decide +kernel
theorem dX11_trip_2 : decode cX11_trip 2 = .ok (.invokevirtual 166, 3) := by decide +kernel
theorem dX11_trip_5 : decode cX11_trip 5 = .ok (.ifCond .eq 28, 3) := by decide +kernel
theorem dX11_trip_8 : decode cX11_trip 8 = .ok (.aload_n 0, 1) := by decide +kernel
theorem dX11_trip_9 : decode cX11_trip 9 = .ok (.iload_n 2, 1) := by decide +kernel
theorem dX11_trip_10 : decode cX11_trip 10 = .ok (.invokevirtual 166, 3) := by decide +kernel
theorem dX11_trip_13 : decode cX11_trip 13 = .ok (.ifCond .eq 20, 3) := by decide +kernel
theorem dX11_trip_16 : decode cX11_trip 16 = .ok (.iload_n 1, 1) := by decide +kernel
theorem dX11_trip_17 : decode cX11_trip 17 = .ok (.iload_n 2, 1) := by decide +kernel
theorem dX11_trip_18 : decode cX11_trip 18 = .ok (.if_icmp .eq 15, 3) := by decide +kernel
theorem dX11_trip_21 : decode cX11_trip 21 = .ok (.iload_n 3, 1) := by decide +kernel
theorem dX11_trip_22 : decode cX11_trip 22 = .ok (.iconst 1, 1) := by decide +kernel
theorem dX11_trip_23 : decode cX11_trip 23 = .ok (.if_icmp .lt 10, 3) := by decide +kernel
theorem dX11_trip_26 : decode cX11_trip 26 = .ok (.iload_n 3, 1) := by decide +kernel
theorem dX11_trip_27 : decode cX11_trip 27 = .ok (.sipush 9999, 3) := by decide +kernel
theorem dX11_trip_30 : decode cX11_trip 30 = .ok (.if_icmp .le 5, 3) := by decide +kernel
theorem dX11_trip_33 : decode cX11_trip 33 = .ok (.iconst 0, 1) := by decide +kernel
theorem dX11_trip_34 : decode cX11_trip 34 = .ok (.ireturn, 1) := by decide +kernel
theorem dX11_trip_35 : decode cX11_trip 35 = .ok (.aload_n 0, 1) := by decide +kernel
theorem dX11_trip_36 : decode cX11_trip 36 = .ok (.getfield 76, 3) := by decide +kernel
theorem dX11_trip_39 : decode cX11_trip 39 = .ok (.iload_n 1, 1) := by decide +kernel
theorem dX11_trip_40 : decode cX11_trip 40 = .ok (.iload_n 2, 1) := by decide +kernel
theorem dX11_trip_41 : decode cX11_trip 41 = .ok (.iload_n 3, 1) := by decide +kernel
theorem dX11_trip_42 : decode cX11_trip 42 = .ok (.invokevirtual 272, 3) := by decide +kernel
theorem dX11_trip_45 : decode cX11_trip 45 = .ok (.ireturn, 1) := by decide +kernel
def F_X11_trip (a1 : Int32) (a2 : Int32) (a3 : Int32) (h : PH) : Option (Int32 × PH) :=
  bI (F_X11_isFloor a1 h) fun r1 h2 =>
  if r1 = 0 then
    some ((0 : Int32), h2)
  else
    bI (F_X11_isFloor a2 h2) fun r4 h5 =>
    if r4 = 0 then
      some ((0 : Int32), h5)
    else
      if a1 = a2 then
        some ((0 : Int32), h5)
      else
        if a3 < (1 : Int32) then
          some ((0 : Int32), h5)
        else
          if a3 ≤ (9999 : Int32) then
            bI (F_X7_addTrip a1 a2 a3 h5) fun r10 h11 =>
            if zb r10 = true then
            some (r10, h11)
            else none
          else
            some ((0 : Int32), h5)
set_option maxRecDepth 20000 in
set_option maxHeartbeats 4000000 in
theorem M_X11_trip (E : EV) {a1 : Int32} {a2 : Int32} {a3 : Int32} {r : Int32} {h h2 : PH} (hyp : F_X11_trip a1 a2 a3 h = some (r, h2)) : MI E 103 yX11_trip cX11_trip 4 (some .boolean) 2 44 [.ref 0, .int a1, .int a2, .int a3] h r h2 := by
  refine MI.of 0 (by decide) rfl (fun X e1 C => ?_)
  subst e1
  replace C : CX X 103 cX11_trip 4 RX11 (some .boolean) 2 44 := C
  show V X _ h 0 [some (.ref 0), some (.int a1), some (.int a2), some (.int a3)] []
  unfold F_X11_trip at hyp
  refine V_aload_n (pc := 0) C dX11_trip_0 rfl ?_
  refine V_iload_n (pc := 1) C dX11_trip_1 rfl ?_
  obtain ⟨r1, h2, eh2, hyp⟩ := bI_n hyp
  refine V_callI (pc := 2) C dX11_trip_2 lm_X11_166 mk_X11_isFloor ok_0 rfl (M_X11_isFloor _ eh2) rfl pd_X11_isFloor (by decide) (by decide) (by decide) (As := [.int a1]) (rest := []) rfl (Nat.le_of_ble_eq_true rfl) ?_
  refine V_if_eq (pc := 5) C dX11_trip_5 (tgt := 33) (by decide) (fun q3 => ?_) (fun q3 => ?_)
  · replace hyp := (if_pos q3).symm.trans hyp
    refine V_iconst (pc := 33) C dX11_trip_33 (v := 0) (by decide) ?_
    cases hyp
    exact V_zret C dX11_trip_34 rfl
  · replace hyp := (if_neg q3).symm.trans hyp
    refine V_aload_n (pc := 8) C dX11_trip_8 rfl ?_
    refine V_iload_n (pc := 9) C dX11_trip_9 rfl ?_
    obtain ⟨r4, h5, eh5, hyp⟩ := bI_n hyp
    refine V_callI (pc := 10) C dX11_trip_10 lm_X11_166 mk_X11_isFloor ok_0 rfl (M_X11_isFloor _ eh5) rfl pd_X11_isFloor (by decide) (by decide) (by decide) (As := [.int a2]) (rest := []) rfl (Nat.le_of_ble_eq_true rfl) ?_
    refine V_if_eq (pc := 13) C dX11_trip_13 (tgt := 33) (by decide) (fun q6 => ?_) (fun q6 => ?_)
    · replace hyp := (if_pos q6).symm.trans hyp
      refine V_iconst (pc := 33) C dX11_trip_33 (v := 0) (by decide) ?_
      cases hyp
      exact V_zret C dX11_trip_34 rfl
    · replace hyp := (if_neg q6).symm.trans hyp
      refine V_iload_n (pc := 16) C dX11_trip_16 rfl ?_
      refine V_iload_n (pc := 17) C dX11_trip_17 rfl ?_
      refine V_icmp_eq (pc := 18) C dX11_trip_18 (tgt := 33) (by decide) (fun q7 => ?_) (fun q7 => ?_)
      · replace hyp := (if_pos q7).symm.trans hyp
        refine V_iconst (pc := 33) C dX11_trip_33 (v := 0) (by decide) ?_
        cases hyp
        exact V_zret C dX11_trip_34 rfl
      · replace hyp := (if_neg q7).symm.trans hyp
        refine V_iload_n (pc := 21) C dX11_trip_21 rfl ?_
        refine V_iconst (pc := 22) C dX11_trip_22 (v := 1) (by decide) ?_
        refine V_icmp_lt (pc := 23) C dX11_trip_23 (tgt := 33) (by decide) (fun q8 => ?_) (fun q8 => ?_)
        · replace hyp := (if_pos q8).symm.trans hyp
          refine V_iconst (pc := 33) C dX11_trip_33 (v := 0) (by decide) ?_
          cases hyp
          exact V_zret C dX11_trip_34 rfl
        · replace hyp := (if_neg q8).symm.trans hyp
          refine V_iload_n (pc := 26) C dX11_trip_26 rfl ?_
          refine V_sipush (pc := 27) C dX11_trip_27 (v := 9999) (by decide) ?_
          refine V_icmp_le (pc := 30) C dX11_trip_30 (tgt := 35) (by decide) (fun q9 => ?_) (fun q9 => ?_)
          · replace hyp := (if_pos q9).symm.trans hyp
            refine V_aload_n (pc := 35) C dX11_trip_35 rfl ?_
            refine V_getR (pc := 36) C dX11_trip_36 lf_X11_76 fk_0_8 ?_
            refine V_iload_n (pc := 39) C dX11_trip_39 rfl ?_
            refine V_iload_n (pc := 40) C dX11_trip_40 rfl ?_
            refine V_iload_n (pc := 41) C dX11_trip_41 rfl ?_
            obtain ⟨r10, h11, eh11, hyp⟩ := bI_n hyp
            refine V_callI (pc := 42) C dX11_trip_42 lm_X11_272 mk_X7_addTrip ok_99 rfl (M_X7_addTrip _ eh11) rfl pd_X7_addTrip (by decide) (by decide) (by decide) (As := [.int a1, .int a2, .int a3]) (rest := []) rfl (Nat.le_of_ble_eq_true rfl) ?_
            obtain ⟨g12, hyp⟩ := gd_n hyp
            cases hyp
            exact V_zret C dX11_trip_45 (zb_n g12).1
          · replace hyp := (if_neg q9).symm.trans hyp
            refine V_iconst (pc := 33) C dX11_trip_33 (v := 0) (by decide) ?_
            cases hyp
            exact V_zret C dX11_trip_34 rfl
theorem dX11_gauge_0 : decode cX11_gauge 0 = .ok (.iload_n 1, 1) := by decide +kernel
theorem dX11_gauge_1 : decode cX11_gauge 1 = .ok (.tableswitch 54 0 2 #[27, 36, 45], 27) := by decide +kernel
theorem dX11_gauge_28 : decode cX11_gauge 28 = .ok (.aload_n 0, 1) := by decide +kernel
theorem dX11_gauge_29 : decode cX11_gauge 29 = .ok (.getfield 76, 3) := by decide +kernel
theorem dX11_gauge_32 : decode cX11_gauge 32 = .ok (.iload_n 2, 1) := by decide +kernel
theorem dX11_gauge_33 : decode cX11_gauge 33 = .ok (.invokevirtual 275, 3) := by decide +kernel
theorem dX11_gauge_36 : decode cX11_gauge 36 = .ok (.ireturn, 1) := by decide +kernel
theorem dX11_gauge_37 : decode cX11_gauge 37 = .ok (.aload_n 0, 1) := by decide +kernel
theorem dX11_gauge_38 : decode cX11_gauge 38 = .ok (.getfield 76, 3) := by decide +kernel
theorem dX11_gauge_41 : decode cX11_gauge 41 = .ok (.iload_n 2, 1) := by decide +kernel
theorem dX11_gauge_42 : decode cX11_gauge 42 = .ok (.invokevirtual 278, 3) := by decide +kernel
theorem dX11_gauge_45 : decode cX11_gauge 45 = .ok (.ireturn, 1) := by decide +kernel
theorem dX11_gauge_46 : decode cX11_gauge 46 = .ok (.aload_n 0, 1) := by decide +kernel
theorem dX11_gauge_47 : decode cX11_gauge 47 = .ok (.getfield 76, 3) := by decide +kernel
theorem dX11_gauge_50 : decode cX11_gauge 50 = .ok (.iload_n 2, 1) := by decide +kernel
theorem dX11_gauge_51 : decode cX11_gauge 51 = .ok (.invokevirtual 281, 3) := by decide +kernel
theorem dX11_gauge_54 : decode cX11_gauge 54 = .ok (.ireturn, 1) := by decide +kernel
theorem dX11_gauge_55 : decode cX11_gauge 55 = .ok (.iconst 0, 1) := by decide +kernel
theorem dX11_gauge_56 : decode cX11_gauge 56 = .ok (.ireturn, 1) := by decide +kernel
def F_X11_gauge (a1 : Int32) (a2 : Int32) (h : PH) : Option (Int32 × PH) :=
  if a1 = (0 : Int32) then
    bI (F_X7_setSlip a2 h) fun r2 h3 =>
    if zb r2 = true then
    some (r2, h3)
    else none
  else
  if a1 = (1 : Int32) then
    bI (F_X7_setLife a2 h) fun r6 h7 =>
    if zb r6 = true then
    some (r6, h7)
    else none
  else
  if a1 = (2 : Int32) then
    bI (F_X7_setDays a2 h) fun r10 h11 =>
    if zb r10 = true then
    some (r10, h11)
    else none
  else
  some ((0 : Int32), h)
set_option maxRecDepth 20000 in
set_option maxHeartbeats 4000000 in
theorem M_X11_gauge (E : EV) {a1 : Int32} {a2 : Int32} {r : Int32} {h h2 : PH} (hyp : F_X11_gauge a1 a2 h = some (r, h2)) : MI E 103 yX11_gauge cX11_gauge 3 (some .boolean) 1 22 [.ref 0, .int a1, .int a2] h r h2 := by
  refine MI.of 0 (by decide) rfl (fun X e1 C => ?_)
  subst e1
  replace C : CX X 103 cX11_gauge 3 RX11 (some .boolean) 1 22 := C
  show V X _ h 0 [some (.ref 0), some (.int a1), some (.int a2)] []
  unfold F_X11_gauge at hyp
  refine V_iload_n (pc := 0) C dX11_gauge_0 rfl ?_
  by_cases q1 : a1 = (0 : Int32)
  · replace hyp := (if_pos q1).symm.trans hyp
    refine V_tsIn (pc := 1) C (0 : Int32) dX11_gauge_1 (off := 27) (tgt := 28) q1 (by decide) (by decide) rfl (by decide) ?_
    refine V_aload_n (pc := 28) C dX11_gauge_28 rfl ?_
    refine V_getR (pc := 29) C dX11_gauge_29 lf_X11_76 fk_0_8 ?_
    refine V_iload_n (pc := 32) C dX11_gauge_32 rfl ?_
    obtain ⟨r2, h3, eh3, hyp⟩ := bI_n hyp
    refine V_callI (pc := 33) C dX11_gauge_33 lm_X11_275 mk_X7_setSlip ok_99 rfl (M_X7_setSlip _ eh3) rfl pd_X7_setSlip (by decide) (by decide) (by decide) (As := [.int a2]) (rest := []) rfl (Nat.le_of_ble_eq_true rfl) ?_
    obtain ⟨g4, hyp⟩ := gd_n hyp
    cases hyp
    exact V_zret C dX11_gauge_36 (zb_n g4).1
  · replace hyp := (if_neg q1).symm.trans hyp
    by_cases q5 : a1 = (1 : Int32)
    · replace hyp := (if_pos q5).symm.trans hyp
      refine V_tsIn (pc := 1) C (1 : Int32) dX11_gauge_1 (off := 36) (tgt := 37) q5 (by decide) (by decide) rfl (by decide) ?_
      refine V_aload_n (pc := 37) C dX11_gauge_37 rfl ?_
      refine V_getR (pc := 38) C dX11_gauge_38 lf_X11_76 fk_0_8 ?_
      refine V_iload_n (pc := 41) C dX11_gauge_41 rfl ?_
      obtain ⟨r6, h7, eh7, hyp⟩ := bI_n hyp
      refine V_callI (pc := 42) C dX11_gauge_42 lm_X11_278 mk_X7_setLife ok_99 rfl (M_X7_setLife _ eh7) rfl pd_X7_setLife (by decide) (by decide) (by decide) (As := [.int a2]) (rest := []) rfl (Nat.le_of_ble_eq_true rfl) ?_
      obtain ⟨g8, hyp⟩ := gd_n hyp
      cases hyp
      exact V_zret C dX11_gauge_45 (zb_n g8).1
    · replace hyp := (if_neg q5).symm.trans hyp
      by_cases q9 : a1 = (2 : Int32)
      · replace hyp := (if_pos q9).symm.trans hyp
        refine V_tsIn (pc := 1) C (2 : Int32) dX11_gauge_1 (off := 45) (tgt := 46) q9 (by decide) (by decide) rfl (by decide) ?_
        refine V_aload_n (pc := 46) C dX11_gauge_46 rfl ?_
        refine V_getR (pc := 47) C dX11_gauge_47 lf_X11_76 fk_0_8 ?_
        refine V_iload_n (pc := 50) C dX11_gauge_50 rfl ?_
        obtain ⟨r10, h11, eh11, hyp⟩ := bI_n hyp
        refine V_callI (pc := 51) C dX11_gauge_51 lm_X11_281 mk_X7_setDays ok_99 rfl (M_X7_setDays _ eh11) rfl pd_X7_setDays (by decide) (by decide) (by decide) (As := [.int a2]) (rest := []) rfl (Nat.le_of_ble_eq_true rfl) ?_
        obtain ⟨g12, hyp⟩ := gd_n hyp
        cases hyp
        exact V_zret C dX11_gauge_54 (zb_n g12).1
      · replace hyp := (if_neg q9).symm.trans hyp
        refine V_tsOut (pc := 1) C dX11_gauge_1 (tgt := 55) (fun k k1 k2 => ?_) (by decide) ?_
        · rcases (show k = 0 ∨ k = 1 ∨ k = 2 by omega) with rfl | rfl | rfl
          · exact q1
          · exact q5
          · exact q9
        · refine V_iconst (pc := 55) C dX11_gauge_55 (v := 0) (by decide) ?_
          cases hyp
          exact V_zret C dX11_gauge_56 rfl
theorem dX11_rope_0 : decode cX11_rope 0 = .ok (.iload_n 1, 1) := by decide +kernel
theorem dX11_rope_1 : decode cX11_rope 1 = .ok (.ifCond .lt 16, 3) := by decide +kernel
theorem dX11_rope_4 : decode cX11_rope 4 = .ok (.iload_n 1, 1) := by decide +kernel
theorem dX11_rope_5 : decode cX11_rope 5 = .ok (.aload_n 0, 1) := by decide +kernel
theorem dX11_rope_6 : decode cX11_rope 6 = .ok (.getfield 28, 3) := by decide +kernel
theorem dX11_rope_9 : decode cX11_rope 9 = .ok (.getfield 92, 3) := by decide +kernel
theorem dX11_rope_12 : decode cX11_rope 12 = .ok (.iconst 1, 1) := by decide +kernel
theorem dX11_rope_13 : decode cX11_rope 13 = .ok (.isub, 1) := by decide +kernel
theorem dX11_rope_14 : decode cX11_rope 14 = .ok (.if_icmp .lt 5, 3) := by decide +kernel
theorem dX11_rope_17 : decode cX11_rope 17 = .ok (.iconst (-1), 1) := by decide +kernel
theorem dX11_rope_18 : decode cX11_rope 18 = .ok (.ireturn, 1) := by decide +kernel
theorem dX11_rope_19 : decode cX11_rope 19 = .ok (.iload_n 2, 1) := by decide +kernel
theorem dX11_rope_20 : decode cX11_rope 20 = .ok (.tableswitch 55 0 2 #[28, 37, 46], 28) := by decide +kernel
theorem dX11_rope_48 : decode cX11_rope 48 = .ok (.aload_n 0, 1) := by decide +kernel
theorem dX11_rope_49 : decode cX11_rope 49 = .ok (.getfield 76, 3) := by decide +kernel
theorem dX11_rope_52 : decode cX11_rope 52 = .ok (.iload_n 1, 1) := by decide +kernel
theorem dX11_rope_53 : decode cX11_rope 53 = .ok (.invokevirtual 284, 3) := by decide +kernel
theorem dX11_rope_56 : decode cX11_rope 56 = .ok (.ireturn, 1) := by decide +kernel
theorem dX11_rope_57 : decode cX11_rope 57 = .ok (.aload_n 0, 1) := by decide +kernel
theorem dX11_rope_58 : decode cX11_rope 58 = .ok (.getfield 76, 3) := by decide +kernel
theorem dX11_rope_61 : decode cX11_rope 61 = .ok (.iload_n 1, 1) := by decide +kernel
theorem dX11_rope_62 : decode cX11_rope 62 = .ok (.invokevirtual 287, 3) := by decide +kernel
theorem dX11_rope_65 : decode cX11_rope 65 = .ok (.ireturn, 1) := by decide +kernel
theorem dX11_rope_66 : decode cX11_rope 66 = .ok (.aload_n 0, 1) := by decide +kernel
theorem dX11_rope_67 : decode cX11_rope 67 = .ok (.getfield 76, 3) := by decide +kernel
theorem dX11_rope_70 : decode cX11_rope 70 = .ok (.iload_n 1, 1) := by decide +kernel
theorem dX11_rope_71 : decode cX11_rope 71 = .ok (.invokevirtual 290, 3) := by decide +kernel
theorem dX11_rope_74 : decode cX11_rope 74 = .ok (.ireturn, 1) := by decide +kernel
theorem dX11_rope_75 : decode cX11_rope 75 = .ok (.iconst (-1), 1) := by decide +kernel
theorem dX11_rope_76 : decode cX11_rope 76 = .ok (.ireturn, 1) := by decide +kernel
def F_X11_rope (N : Nat) (a1 : Int32) (a2 : Int32) (h : PH) : Option (Int32 × PH) :=
  if a1 < 0 then
    some ((-1 : Int32), h)
  else
    if a1 < ((h.1 14 1) - (1 : Int32)) then
      if a2 = (0 : Int32) then
        bI (F_X7_leastBends N a1 h) fun r4 h5 =>
        some (r4, h5)
      else
      if a2 = (1 : Int32) then
        bI (F_X7_mostBends N a1 h) fun r7 h8 =>
        some (r7, h8)
      else
      if a2 = (2 : Int32) then
        bI (F_X7_worn N a1 h) fun r10 h11 =>
        some (r10, h11)
      else
      some ((-1 : Int32), h)
    else
      some ((-1 : Int32), h)
set_option maxRecDepth 20000 in
set_option maxHeartbeats 4000000 in
theorem M_X11_rope (E : EV) {N : Nat} {a1 : Int32} {a2 : Int32} {r : Int32} {h h2 : PH} (hyp : F_X11_rope N a1 a2 h = some (r, h2)) : MI E 103 yX11_rope cX11_rope 3 (some .int) 4 90 [.ref 0, .int a1, .int a2] h r h2 := by
  refine MI.of 0 (by decide) rfl (fun X e1 C => ?_)
  subst e1
  replace C : CX X 103 cX11_rope 3 RX11 (some .int) 4 90 := C
  show V X _ h 0 [some (.ref 0), some (.int a1), some (.int a2)] []
  unfold F_X11_rope at hyp
  refine V_iload_n (pc := 0) C dX11_rope_0 rfl ?_
  refine V_if_lt (pc := 1) C dX11_rope_1 (tgt := 17) (by decide) (fun q1 => ?_) (fun q1 => ?_)
  · replace hyp := (if_pos q1).symm.trans hyp
    refine V_iconst (pc := 17) C dX11_rope_17 (v := -1) (by decide) ?_
    cases hyp
    exact V_iret C dX11_rope_18
  · replace hyp := (if_neg q1).symm.trans hyp
    refine V_iload_n (pc := 4) C dX11_rope_4 rfl ?_
    refine V_aload_n (pc := 5) C dX11_rope_5 rfl ?_
    refine V_getR (pc := 6) C dX11_rope_6 lf_X11_28 fk_0_2 ?_
    refine V_getI (pc := 9) C dX11_rope_9 lf_X11_92 fk_14_1 ?_
    refine V_iconst (pc := 12) C dX11_rope_12 (v := 1) (by decide) ?_
    refine V_isub (pc := 13) C dX11_rope_13 ?_
    refine V_icmp_lt (pc := 14) C dX11_rope_14 (tgt := 19) (by decide) (fun q2 => ?_) (fun q2 => ?_)
    · replace hyp := (if_pos q2).symm.trans hyp
      refine V_iload_n (pc := 19) C dX11_rope_19 rfl ?_
      by_cases q3 : a2 = (0 : Int32)
      · replace hyp := (if_pos q3).symm.trans hyp
        refine V_tsIn (pc := 20) C (0 : Int32) dX11_rope_20 (off := 28) (tgt := 48) q3 (by decide) (by decide) rfl (by decide) ?_
        refine V_aload_n (pc := 48) C dX11_rope_48 rfl ?_
        refine V_getR (pc := 49) C dX11_rope_49 lf_X11_76 fk_0_8 ?_
        refine V_iload_n (pc := 52) C dX11_rope_52 rfl ?_
        obtain ⟨r4, h5, eh5, hyp⟩ := bI_n hyp
        refine V_callI (pc := 53) C dX11_rope_53 lm_X11_284 mk_X7_leastBends ok_99 rfl (M_X7_leastBends _ eh5) rfl pd_X7_leastBends (by decide) (by decide) (by decide) (As := [.int a1]) (rest := []) rfl (Nat.le_of_ble_eq_true rfl) ?_
        cases hyp
        exact V_iret C dX11_rope_56
      · replace hyp := (if_neg q3).symm.trans hyp
        by_cases q6 : a2 = (1 : Int32)
        · replace hyp := (if_pos q6).symm.trans hyp
          refine V_tsIn (pc := 20) C (1 : Int32) dX11_rope_20 (off := 37) (tgt := 57) q6 (by decide) (by decide) rfl (by decide) ?_
          refine V_aload_n (pc := 57) C dX11_rope_57 rfl ?_
          refine V_getR (pc := 58) C dX11_rope_58 lf_X11_76 fk_0_8 ?_
          refine V_iload_n (pc := 61) C dX11_rope_61 rfl ?_
          obtain ⟨r7, h8, eh8, hyp⟩ := bI_n hyp
          refine V_callI (pc := 62) C dX11_rope_62 lm_X11_287 mk_X7_mostBends ok_99 rfl (M_X7_mostBends _ eh8) rfl pd_X7_mostBends (by decide) (by decide) (by decide) (As := [.int a1]) (rest := []) rfl (Nat.le_of_ble_eq_true rfl) ?_
          cases hyp
          exact V_iret C dX11_rope_65
        · replace hyp := (if_neg q6).symm.trans hyp
          by_cases q9 : a2 = (2 : Int32)
          · replace hyp := (if_pos q9).symm.trans hyp
            refine V_tsIn (pc := 20) C (2 : Int32) dX11_rope_20 (off := 46) (tgt := 66) q9 (by decide) (by decide) rfl (by decide) ?_
            refine V_aload_n (pc := 66) C dX11_rope_66 rfl ?_
            refine V_getR (pc := 67) C dX11_rope_67 lf_X11_76 fk_0_8 ?_
            refine V_iload_n (pc := 70) C dX11_rope_70 rfl ?_
            obtain ⟨r10, h11, eh11, hyp⟩ := bI_n hyp
            refine V_callI (pc := 71) C dX11_rope_71 lm_X11_290 mk_X7_worn ok_99 rfl (M_X7_worn _ eh11) rfl pd_X7_worn (by decide) (by decide) (by decide) (As := [.int a1]) (rest := []) rfl (Nat.le_of_ble_eq_true rfl) ?_
            cases hyp
            exact V_iret C dX11_rope_74
          · replace hyp := (if_neg q9).symm.trans hyp
            refine V_tsOut (pc := 20) C dX11_rope_20 (tgt := 75) (fun k k1 k2 => ?_) (by decide) ?_
            · rcases (show k = 0 ∨ k = 1 ∨ k = 2 by omega) with rfl | rfl | rfl
              · exact q3
              · exact q6
              · exact q9
            · refine V_iconst (pc := 75) C dX11_rope_75 (v := -1) (by decide) ?_
              cases hyp
              exact V_iret C dX11_rope_76
    · replace hyp := (if_neg q2).symm.trans hyp
      refine V_iconst (pc := 17) C dX11_rope_17 (v := -1) (by decide) ?_
      cases hyp
      exact V_iret C dX11_rope_18
theorem dX11_first_0 : decode cX11_first 0 = .ok (.iload_n 1, 1) := by decide +kernel
theorem dX11_first_1 : decode cX11_first 1 = .ok (.ifCond .lt 8, 3) := by decide +kernel
theorem dX11_first_4 : decode cX11_first 4 = .ok (.iload_n 1, 1) := by decide +kernel
theorem dX11_first_5 : decode cX11_first 5 = .ok (.iconst 1, 1) := by decide +kernel
theorem dX11_first_6 : decode cX11_first 6 = .ok (.if_icmp .le 5, 3) := by decide +kernel
theorem dX11_first_9 : decode cX11_first 9 = .ok (.iconst (-1), 1) := by decide +kernel
theorem dX11_first_10 : decode cX11_first 10 = .ok (.ireturn, 1) := by decide +kernel
theorem dX11_first_11 : decode cX11_first 11 = .ok (.iconst 0, 1) := by decide +kernel
theorem dX11_first_12 : decode cX11_first 12 = .ok (.istore_n 2, 1) := by decide +kernel
theorem dX11_first_13 : decode cX11_first 13 = .ok (.iconst 0, 1) := by decide +kernel
theorem dX11_first_14 : decode cX11_first 14 = .ok (.istore_n 3, 1) := by decide +kernel
theorem dX11_first_15 : decode cX11_first 15 = .ok (.iload_n 3, 1) := by decide +kernel
theorem dX11_first_16 : decode cX11_first 16 = .ok (.aload_n 0, 1) := by decide +kernel
theorem dX11_first_17 : decode cX11_first 17 = .ok (.getfield 28, 3) := by decide +kernel
theorem dX11_first_20 : decode cX11_first 20 = .ok (.getfield 92, 3) := by decide +kernel
theorem dX11_first_23 : decode cX11_first 23 = .ok (.iconst 1, 1) := by decide +kernel
theorem dX11_first_24 : decode cX11_first 24 = .ok (.isub, 1) := by decide +kernel
theorem dX11_first_25 : decode cX11_first 25 = .ok (.if_icmp .ge 44, 3) := by decide +kernel
theorem dX11_first_28 : decode cX11_first 28 = .ok (.aload_n 0, 1) := by decide +kernel
theorem dX11_first_29 : decode cX11_first 29 = .ok (.getfield 76, 3) := by decide +kernel
theorem dX11_first_32 : decode cX11_first 32 = .ok (.iload_n 3, 1) := by decide +kernel
theorem dX11_first_33 : decode cX11_first 33 = .ok (.aload_n 0, 1) := by decide +kernel
theorem dX11_first_34 : decode cX11_first 34 = .ok (.getfield 28, 3) := by decide +kernel
theorem dX11_first_37 : decode cX11_first 37 = .ok (.getfield 92, 3) := by decide +kernel
theorem dX11_first_40 : decode cX11_first 40 = .ok (.iconst 1, 1) := by decide +kernel
theorem dX11_first_41 : decode cX11_first 41 = .ok (.isub, 1) := by decide +kernel
theorem dX11_first_42 : decode cX11_first 42 = .ok (.iload_n 1, 1) := by decide +kernel
theorem dX11_first_43 : decode cX11_first 43 = .ok (.ifCond .ne 7, 3) := by decide +kernel
theorem dX11_first_46 : decode cX11_first 46 = .ok (.iconst 1, 1) := by decide +kernel
theorem dX11_first_47 : decode cX11_first 47 = .ok (.goto 4, 3) := by decide +kernel
theorem dX11_first_50 : decode cX11_first 50 = .ok (.iconst 0, 1) := by decide +kernel
theorem dX11_first_51 : decode cX11_first 51 = .ok (.invokevirtual 293, 3) := by decide +kernel
theorem dX11_first_54 : decode cX11_first 54 = .ok (.ifCond .eq 9, 3) := by decide +kernel
theorem dX11_first_57 : decode cX11_first 57 = .ok (.iload_n 2, 1) := by decide +kernel
theorem dX11_first_58 : decode cX11_first 58 = .ok (.iconst 1, 1) := by decide +kernel
theorem dX11_first_59 : decode cX11_first 59 = .ok (.iload_n 3, 1) := by decide +kernel
theorem dX11_first_60 : decode cX11_first 60 = .ok (.ishl, 1) := by decide +kernel
theorem dX11_first_61 : decode cX11_first 61 = .ok (.ior, 1) := by decide +kernel
theorem dX11_first_62 : decode cX11_first 62 = .ok (.istore_n 2, 1) := by decide +kernel
theorem dX11_first_63 : decode cX11_first 63 = .ok (.iinc 3 1, 3) := by decide +kernel
theorem dX11_first_66 : decode cX11_first 66 = .ok (.goto (-51), 3) := by decide +kernel
theorem dX11_first_69 : decode cX11_first 69 = .ok (.iload_n 2, 1) := by decide +kernel
theorem dX11_first_70 : decode cX11_first 70 = .ok (.ireturn, 1) := by decide +kernel
def F_X11_first_b63 (N : Nat) (rc15 : Int32 → Int32 → Int32 → PH → Option (Int32 × PH)) (x1 : Int32) (x2 : Int32) (x3 : Int32) (h : PH) : Option (Int32 × PH) :=
  ib (x3 + (1 : Int32)) fun v1 =>
  rc15 x1 x2 v1 h
set_option maxRecDepth 20000 in
set_option maxHeartbeats 4000000 in
theorem T_X11_first_b63 {X : CT} (C : CX X 103 cX11_first 4 RX11 (some .int) 3 73) {r0 : Int32} {h0 : PH} {N : Nat} {rc15 : Int32 → Int32 → Int32 → PH → Option (Int32 × PH)} (hr15 : ∀ (x1 : Int32) (x2 : Int32) (x3 : Int32) (h : PH), rc15 x1 x2 x3 h = some (r0, h0) → V X (QI X r0 h0) h 15 [some (.ref 0), some (.int x1), some (.int x2), some (.int x3)] []) : ∀ (x1 : Int32) (x2 : Int32) (x3 : Int32) (h : PH), F_X11_first_b63 N rc15 x1 x2 x3 h = some (r0, h0) → V X (QI X r0 h0) h 63 [some (.ref 0), some (.int x1), some (.int x2), some (.int x3)] [] := by
  intro x1 x2 x3 h hyp
  unfold F_X11_first_b63 at hyp
  obtain ⟨v1, ev1, hyp⟩ := ib_n hyp
  refine V_iinc (pc := 63) C dX11_first_63 (v := v1) rfl (by rw [ev1]; rfl) (by decide) rfl ?_
  refine V_goto (pc := 66) C dX11_first_66 (tgt := 15) (by decide) ?_
  refine V_weak (lv' := [some (.ref 0), some (.int x1), some (.int x2), some (.int v1)]) (lvle_s (lvle_s (lvle_s (lvle_s lvle_0)))) ?_
  exact hr15 x1 x2 v1 h hyp
def F_X11_first_b51 (N : Nat) (rc15 : Int32 → Int32 → Int32 → PH → Option (Int32 × PH)) (x1 : Int32) (x2 : Int32) (x3 : Int32) (s0 : Int32) (s1 : Int32) (s2 : Int32) (h : PH) : Option (Int32 × PH) :=
  bI (F_X7_leads N s2 s1 s0 h) fun r1 h2 =>
  if r1 = 0 then
    F_X11_first_b63 N rc15 x1 x2 x3 h2
  else
    ib (x2 ||| ((1 : Int32) <<< (x3 &&& 31))) fun v4 =>
    F_X11_first_b63 N rc15 x1 v4 x3 h2
set_option maxRecDepth 20000 in
set_option maxHeartbeats 4000000 in
theorem T_X11_first_b51 {X : CT} (C : CX X 103 cX11_first 4 RX11 (some .int) 3 73) {r0 : Int32} {h0 : PH} {N : Nat} {rc15 : Int32 → Int32 → Int32 → PH → Option (Int32 × PH)} (hr15 : ∀ (x1 : Int32) (x2 : Int32) (x3 : Int32) (h : PH), rc15 x1 x2 x3 h = some (r0, h0) → V X (QI X r0 h0) h 15 [some (.ref 0), some (.int x1), some (.int x2), some (.int x3)] []) : ∀ (x1 : Int32) (x2 : Int32) (x3 : Int32) (s0 : Int32) (s1 : Int32) (s2 : Int32) (h : PH), F_X11_first_b51 N rc15 x1 x2 x3 s0 s1 s2 h = some (r0, h0) → V X (QI X r0 h0) h 51 [some (.ref 0), some (.int x1), some (.int x2), some (.int x3)] [.int s0, .int s1, .int s2, .ref 99] := by
  intro x1 x2 x3 s0 s1 s2 h hyp
  unfold F_X11_first_b51 at hyp
  obtain ⟨r1, h2, eh2, hyp⟩ := bI_n hyp
  refine V_callI (pc := 51) C dX11_first_51 lm_X11_293 mk_X7_leads ok_99 rfl (M_X7_leads _ eh2) rfl pd_X7_leads (by decide) (by decide) (by decide) (As := [.int s2, .int s1, .int s0]) (rest := []) rfl (Nat.le_of_ble_eq_true rfl) ?_
  refine V_if_eq (pc := 54) C dX11_first_54 (tgt := 63) (by decide) (fun q3 => ?_) (fun q3 => ?_)
  · replace hyp := (if_pos q3).symm.trans hyp
    refine V_weak (lv' := [some (.ref 0), some (.int x1), some (.int x2), some (.int x3)]) (lvle_s (lvle_s (lvle_s (lvle_s lvle_0)))) ?_
    exact (T_X11_first_b63 C hr15) x1 x2 x3 h2 hyp
  · replace hyp := (if_neg q3).symm.trans hyp
    refine V_iload_n (pc := 57) C dX11_first_57 rfl ?_
    refine V_iconst (pc := 58) C dX11_first_58 (v := 1) (by decide) ?_
    refine V_iload_n (pc := 59) C dX11_first_59 rfl ?_
    refine V_ishl (pc := 60) C dX11_first_60 ?_
    refine V_ior (pc := 61) C dX11_first_61 ?_
    obtain ⟨v4, ev4, hyp⟩ := ib_n hyp
    refine V_topI ev4 ?_
    refine V_istore_n (pc := 62) C dX11_first_62 (by decide) rfl ?_
    refine V_weak (lv' := [some (.ref 0), some (.int x1), some (.int v4), some (.int x3)]) (lvle_s (lvle_s (lvle_s (lvle_s lvle_0)))) ?_
    exact (T_X11_first_b63 C hr15) x1 v4 x3 h2 hyp
def F_X11_first_b15 (N : Nat) : Nat → Int32 → Int32 → Int32 → PH → Option (Int32 × PH)
  | 0, _, _, _, _ => none
  | n + 1, x1, x2, x3, h =>
    if ((h.1 14 1) - (1 : Int32)) ≤ x3 then
      some (x2, h)
    else
      if x1 = 0 then
        F_X11_first_b51 N (F_X11_first_b15 N n) x1 x2 x3 (1 : Int32) ((h.1 14 1) - (1 : Int32)) x3 h
      else
        F_X11_first_b51 N (F_X11_first_b15 N n) x1 x2 x3 (0 : Int32) ((h.1 14 1) - (1 : Int32)) x3 h
set_option maxRecDepth 20000 in
set_option maxHeartbeats 4000000 in
theorem T_X11_first_b15 {X : CT} (C : CX X 103 cX11_first 4 RX11 (some .int) 3 73) {r0 : Int32} {h0 : PH} {N : Nat} : ∀ (n : Nat) (x1 : Int32) (x2 : Int32) (x3 : Int32) (h : PH), F_X11_first_b15 N n x1 x2 x3 h = some (r0, h0) → V X (QI X r0 h0) h 15 [some (.ref 0), some (.int x1), some (.int x2), some (.int x3)] [] := by
  intro n
  induction n with
  | zero =>
    intro x1 x2 x3 h hyp
    cases hyp
  | succ n ih =>
    intro x1 x2 x3 h hyp
    unfold F_X11_first_b15 at hyp
    refine V_iload_n (pc := 15) C dX11_first_15 rfl ?_
    refine V_aload_n (pc := 16) C dX11_first_16 rfl ?_
    refine V_getR (pc := 17) C dX11_first_17 lf_X11_28 fk_0_2 ?_
    refine V_getI (pc := 20) C dX11_first_20 lf_X11_92 fk_14_1 ?_
    refine V_iconst (pc := 23) C dX11_first_23 (v := 1) (by decide) ?_
    refine V_isub (pc := 24) C dX11_first_24 ?_
    refine V_icmp_ge (pc := 25) C dX11_first_25 (tgt := 69) (by decide) (fun q1 => ?_) (fun q1 => ?_)
    · replace hyp := (if_pos q1).symm.trans hyp
      refine V_iload_n (pc := 69) C dX11_first_69 rfl ?_
      cases hyp
      exact V_iret C dX11_first_70
    · replace hyp := (if_neg q1).symm.trans hyp
      refine V_aload_n (pc := 28) C dX11_first_28 rfl ?_
      refine V_getR (pc := 29) C dX11_first_29 lf_X11_76 fk_0_8 ?_
      refine V_iload_n (pc := 32) C dX11_first_32 rfl ?_
      refine V_aload_n (pc := 33) C dX11_first_33 rfl ?_
      refine V_getR (pc := 34) C dX11_first_34 lf_X11_28 fk_0_2 ?_
      refine V_getI (pc := 37) C dX11_first_37 lf_X11_92 fk_14_1 ?_
      refine V_iconst (pc := 40) C dX11_first_40 (v := 1) (by decide) ?_
      refine V_isub (pc := 41) C dX11_first_41 ?_
      refine V_iload_n (pc := 42) C dX11_first_42 rfl ?_
      refine V_if_ne (pc := 43) C dX11_first_43 (tgt := 50) (by decide) (fun q2 => ?_) (fun q2 => ?_)
      · replace hyp := (if_neg q2).symm.trans hyp
        refine V_iconst (pc := 50) C dX11_first_50 (v := 0) (by decide) ?_
        refine V_weak (lv' := [some (.ref 0), some (.int x1), some (.int x2), some (.int x3)]) (lvle_s (lvle_s (lvle_s (lvle_s lvle_0)))) ?_
        exact (T_X11_first_b51 C ih) x1 x2 x3 (0 : Int32) ((h.1 14 1) - (1 : Int32)) x3 h hyp
      · replace hyp := (if_pos q2).symm.trans hyp
        refine V_iconst (pc := 46) C dX11_first_46 (v := 1) (by decide) ?_
        refine V_goto (pc := 47) C dX11_first_47 (tgt := 51) (by decide) ?_
        refine V_weak (lv' := [some (.ref 0), some (.int x1), some (.int x2), some (.int x3)]) (lvle_s (lvle_s (lvle_s (lvle_s lvle_0)))) ?_
        exact (T_X11_first_b51 C ih) x1 x2 x3 (1 : Int32) ((h.1 14 1) - (1 : Int32)) x3 h hyp
def F_X11_first (N : Nat) (a1 : Int32) (h : PH) : Option (Int32 × PH) :=
  if a1 < 0 then
    some ((-1 : Int32), h)
  else
    if a1 ≤ (1 : Int32) then
      F_X11_first_b15 N N a1 (0 : Int32) (0 : Int32) h
    else
      some ((-1 : Int32), h)
set_option maxRecDepth 20000 in
set_option maxHeartbeats 4000000 in
theorem M_X11_first (E : EV) {N : Nat} {a1 : Int32} {r : Int32} {h h2 : PH} (hyp : F_X11_first N a1 h = some (r, h2)) : MI E 103 yX11_first cX11_first 4 (some .int) 3 73 [.ref 0, .int a1] h r h2 := by
  refine MI.of 2 (by decide) rfl (fun X e1 C => ?_)
  subst e1
  replace C : CX X 103 cX11_first 4 RX11 (some .int) 3 73 := C
  show V X _ h 0 [some (.ref 0), some (.int a1), none, none] []
  unfold F_X11_first at hyp
  refine V_iload_n (pc := 0) C dX11_first_0 rfl ?_
  refine V_if_lt (pc := 1) C dX11_first_1 (tgt := 9) (by decide) (fun q1 => ?_) (fun q1 => ?_)
  · replace hyp := (if_pos q1).symm.trans hyp
    refine V_iconst (pc := 9) C dX11_first_9 (v := -1) (by decide) ?_
    cases hyp
    exact V_iret C dX11_first_10
  · replace hyp := (if_neg q1).symm.trans hyp
    refine V_iload_n (pc := 4) C dX11_first_4 rfl ?_
    refine V_iconst (pc := 5) C dX11_first_5 (v := 1) (by decide) ?_
    refine V_icmp_le (pc := 6) C dX11_first_6 (tgt := 11) (by decide) (fun q2 => ?_) (fun q2 => ?_)
    · replace hyp := (if_pos q2).symm.trans hyp
      refine V_iconst (pc := 11) C dX11_first_11 (v := 0) (by decide) ?_
      refine V_istore_n (pc := 12) C dX11_first_12 (by decide) rfl ?_
      refine V_iconst (pc := 13) C dX11_first_13 (v := 0) (by decide) ?_
      refine V_istore_n (pc := 14) C dX11_first_14 (by decide) rfl ?_
      refine V_weak (lv' := [some (.ref 0), some (.int a1), some (.int (0 : Int32)), some (.int (0 : Int32))]) (lvle_s (lvle_s (lvle_s (lvle_s lvle_0)))) ?_
      exact (T_X11_first_b15 C) N a1 (0 : Int32) (0 : Int32) h hyp
    · replace hyp := (if_neg q2).symm.trans hyp
      refine V_iconst (pc := 9) C dX11_first_9 (v := -1) (by decide) ?_
      cases hyp
      exact V_iret C dX11_first_10
theorem dX11_lasts_0 : decode cX11_lasts 0 = .ok (.iload_n 1, 1) := by decide +kernel
theorem dX11_lasts_1 : decode cX11_lasts 1 = .ok (.ifCond .lt 25, 3) := by decide +kernel
theorem dX11_lasts_4 : decode cX11_lasts 4 = .ok (.iload_n 1, 1) := by decide +kernel
theorem dX11_lasts_5 : decode cX11_lasts 5 = .ok (.aload_n 0, 1) := by decide +kernel
theorem dX11_lasts_6 : decode cX11_lasts 6 = .ok (.getfield 28, 3) := by decide +kernel
theorem dX11_lasts_9 : decode cX11_lasts 9 = .ok (.getfield 92, 3) := by decide +kernel
theorem dX11_lasts_12 : decode cX11_lasts 12 = .ok (.iconst 1, 1) := by decide +kernel
theorem dX11_lasts_13 : decode cX11_lasts 13 = .ok (.isub, 1) := by decide +kernel
theorem dX11_lasts_14 : decode cX11_lasts 14 = .ok (.if_icmp .ge 12, 3) := by decide +kernel
theorem dX11_lasts_17 : decode cX11_lasts 17 = .ok (.iload_n 2, 1) := by decide +kernel
theorem dX11_lasts_18 : decode cX11_lasts 18 = .ok (.ifCond .lt 8, 3) := by decide +kernel
theorem dX11_lasts_21 : decode cX11_lasts 21 = .ok (.iload_n 2, 1) := by decide +kernel
theorem dX11_lasts_22 : decode cX11_lasts 22 = .ok (.iconst 1, 1) := by decide +kernel
theorem dX11_lasts_23 : decode cX11_lasts 23 = .ok (.if_icmp .le 7, 3) := by decide +kernel
theorem dX11_lasts_26 : decode cX11_lasts 26 = .ok (.ldc2_w 297, 3) := by decide +kernel
theorem dX11_lasts_29 : decode cX11_lasts 29 = .ok (.lreturn, 1) := by decide +kernel
theorem dX11_lasts_30 : decode cX11_lasts 30 = .ok (.aload_n 0, 1) := by decide +kernel
theorem dX11_lasts_31 : decode cX11_lasts 31 = .ok (.getfield 76, 3) := by decide +kernel
theorem dX11_lasts_34 : decode cX11_lasts 34 = .ok (.iload_n 2, 1) := by decide +kernel
theorem dX11_lasts_35 : decode cX11_lasts 35 = .ok (.ifCond .ne 14, 3) := by decide +kernel
theorem dX11_lasts_38 : decode cX11_lasts 38 = .ok (.aload_n 0, 1) := by decide +kernel
theorem dX11_lasts_39 : decode cX11_lasts 39 = .ok (.getfield 76, 3) := by decide +kernel
theorem dX11_lasts_42 : decode cX11_lasts 42 = .ok (.iload_n 1, 1) := by decide +kernel
theorem dX11_lasts_43 : decode cX11_lasts 43 = .ok (.invokevirtual 287, 3) := by decide +kernel
theorem dX11_lasts_46 : decode cX11_lasts 46 = .ok (.goto 11, 3) := by decide +kernel
theorem dX11_lasts_49 : decode cX11_lasts 49 = .ok (.aload_n 0, 1) := by decide +kernel
theorem dX11_lasts_50 : decode cX11_lasts 50 = .ok (.getfield 76, 3) := by decide +kernel
theorem dX11_lasts_53 : decode cX11_lasts 53 = .ok (.iload_n 1, 1) := by decide +kernel
theorem dX11_lasts_54 : decode cX11_lasts 54 = .ok (.invokevirtual 284, 3) := by decide +kernel
theorem dX11_lasts_57 : decode cX11_lasts 57 = .ok (.invokevirtual 299, 3) := by decide +kernel
theorem dX11_lasts_60 : decode cX11_lasts 60 = .ok (.lreturn, 1) := by decide +kernel
def F_X11_lasts_b57 (N : Nat) (s0 : Int32) (h : PH) : Option (Int64 × PH) :=
  bL (F_X7_daysLeft s0 h) fun r1 h2 =>
  some (r1, h2)
set_option maxRecDepth 20000 in
set_option maxHeartbeats 4000000 in
theorem T_X11_lasts_b57 {X : CT} (C : CX X 103 cX11_lasts 3 RX11 (some .long) 3 69) {r0 : Int64} {h0 : PH} {N : Nat} : ∀ (s0 : Int32) (h : PH), F_X11_lasts_b57 N s0 h = some (r0, h0) → V X (QL X r0 h0) h 57 [none, none, none] [.int s0, .ref 99] := by
  intro s0 h hyp
  unfold F_X11_lasts_b57 at hyp
  obtain ⟨r1, h2, eh2, hyp⟩ := bL_n hyp
  refine V_callL (pc := 57) C dX11_lasts_57 lm_X11_299 mk_X7_daysLeft ok_99 rfl (M_X7_daysLeft _ eh2) rfl pd_X7_daysLeft (by decide) (by decide) (by decide) (As := [.int s0]) (rest := []) rfl (Nat.le_of_ble_eq_true rfl) ?_
  cases hyp
  exact V_lret C dX11_lasts_60
def F_X11_lasts (N : Nat) (a1 : Int32) (a2 : Int32) (h : PH) : Option (Int64 × PH) :=
  if a1 < 0 then
    some ((-1 : Int64), h)
  else
    if ((h.1 14 1) - (1 : Int32)) ≤ a1 then
      some ((-1 : Int64), h)
    else
      if a2 < 0 then
        some ((-1 : Int64), h)
      else
        if a2 ≤ (1 : Int32) then
          if a2 = 0 then
            bI (F_X7_mostBends N a1 h) fun r8 h9 =>
            F_X11_lasts_b57 N r8 h9
          else
            bI (F_X7_leastBends N a1 h) fun r6 h7 =>
            F_X11_lasts_b57 N r6 h7
        else
          some ((-1 : Int64), h)
set_option maxRecDepth 20000 in
set_option maxHeartbeats 4000000 in
theorem M_X11_lasts (E : EV) {N : Nat} {a1 : Int32} {a2 : Int32} {r : Int64} {h h2 : PH} (hyp : F_X11_lasts N a1 a2 h = some (r, h2)) : ML E 103 yX11_lasts cX11_lasts 3 (some .long) 3 69 [.ref 0, .int a1, .int a2] h r h2 := by
  refine ML.of 0 (by decide) rfl (fun X e1 C => ?_)
  subst e1
  replace C : CX X 103 cX11_lasts 3 RX11 (some .long) 3 69 := C
  show V X _ h 0 [some (.ref 0), some (.int a1), some (.int a2)] []
  unfold F_X11_lasts at hyp
  refine V_iload_n (pc := 0) C dX11_lasts_0 rfl ?_
  refine V_if_lt (pc := 1) C dX11_lasts_1 (tgt := 26) (by decide) (fun q1 => ?_) (fun q1 => ?_)
  · replace hyp := (if_pos q1).symm.trans hyp
    refine V_ldc2 (pc := 26) C dX11_lasts_26 ll_X11_297 ?_
    cases hyp
    exact V_lret C dX11_lasts_29
  · replace hyp := (if_neg q1).symm.trans hyp
    refine V_iload_n (pc := 4) C dX11_lasts_4 rfl ?_
    refine V_aload_n (pc := 5) C dX11_lasts_5 rfl ?_
    refine V_getR (pc := 6) C dX11_lasts_6 lf_X11_28 fk_0_2 ?_
    refine V_getI (pc := 9) C dX11_lasts_9 lf_X11_92 fk_14_1 ?_
    refine V_iconst (pc := 12) C dX11_lasts_12 (v := 1) (by decide) ?_
    refine V_isub (pc := 13) C dX11_lasts_13 ?_
    refine V_icmp_ge (pc := 14) C dX11_lasts_14 (tgt := 26) (by decide) (fun q2 => ?_) (fun q2 => ?_)
    · replace hyp := (if_pos q2).symm.trans hyp
      refine V_ldc2 (pc := 26) C dX11_lasts_26 ll_X11_297 ?_
      cases hyp
      exact V_lret C dX11_lasts_29
    · replace hyp := (if_neg q2).symm.trans hyp
      refine V_iload_n (pc := 17) C dX11_lasts_17 rfl ?_
      refine V_if_lt (pc := 18) C dX11_lasts_18 (tgt := 26) (by decide) (fun q3 => ?_) (fun q3 => ?_)
      · replace hyp := (if_pos q3).symm.trans hyp
        refine V_ldc2 (pc := 26) C dX11_lasts_26 ll_X11_297 ?_
        cases hyp
        exact V_lret C dX11_lasts_29
      · replace hyp := (if_neg q3).symm.trans hyp
        refine V_iload_n (pc := 21) C dX11_lasts_21 rfl ?_
        refine V_iconst (pc := 22) C dX11_lasts_22 (v := 1) (by decide) ?_
        refine V_icmp_le (pc := 23) C dX11_lasts_23 (tgt := 30) (by decide) (fun q4 => ?_) (fun q4 => ?_)
        · replace hyp := (if_pos q4).symm.trans hyp
          refine V_aload_n (pc := 30) C dX11_lasts_30 rfl ?_
          refine V_getR (pc := 31) C dX11_lasts_31 lf_X11_76 fk_0_8 ?_
          refine V_iload_n (pc := 34) C dX11_lasts_34 rfl ?_
          refine V_if_ne (pc := 35) C dX11_lasts_35 (tgt := 49) (by decide) (fun q5 => ?_) (fun q5 => ?_)
          · replace hyp := (if_neg q5).symm.trans hyp
            refine V_aload_n (pc := 49) C dX11_lasts_49 rfl ?_
            refine V_getR (pc := 50) C dX11_lasts_50 lf_X11_76 fk_0_8 ?_
            refine V_iload_n (pc := 53) C dX11_lasts_53 rfl ?_
            obtain ⟨r6, h7, eh7, hyp⟩ := bI_n hyp
            refine V_callI (pc := 54) C dX11_lasts_54 lm_X11_284 mk_X7_leastBends ok_99 rfl (M_X7_leastBends _ eh7) rfl pd_X7_leastBends (by decide) (by decide) (by decide) (As := [.int a1]) (rest := [.ref 99]) rfl (Nat.le_of_ble_eq_true rfl) ?_
            refine V_weak (lv' := [none, none, none]) (lvle_n (lvle_n (lvle_n lvle_0))) ?_
            exact (T_X11_lasts_b57 C) r6 h7 hyp
          · replace hyp := (if_pos q5).symm.trans hyp
            refine V_aload_n (pc := 38) C dX11_lasts_38 rfl ?_
            refine V_getR (pc := 39) C dX11_lasts_39 lf_X11_76 fk_0_8 ?_
            refine V_iload_n (pc := 42) C dX11_lasts_42 rfl ?_
            obtain ⟨r8, h9, eh9, hyp⟩ := bI_n hyp
            refine V_callI (pc := 43) C dX11_lasts_43 lm_X11_287 mk_X7_mostBends ok_99 rfl (M_X7_mostBends _ eh9) rfl pd_X7_mostBends (by decide) (by decide) (by decide) (As := [.int a1]) (rest := [.ref 99]) rfl (Nat.le_of_ble_eq_true rfl) ?_
            refine V_goto (pc := 46) C dX11_lasts_46 (tgt := 57) (by decide) ?_
            refine V_weak (lv' := [none, none, none]) (lvle_n (lvle_n (lvle_n lvle_0))) ?_
            exact (T_X11_lasts_b57 C) r8 h9 hyp
        · replace hyp := (if_neg q4).symm.trans hyp
          refine V_ldc2 (pc := 26) C dX11_lasts_26 ll_X11_297 ?_
          cases hyp
          exact V_lret C dX11_lasts_29
theorem dX11_count_0 : decode cX11_count 0 = .ok (.iload_n 1, 1) := by decide +kernel
theorem dX11_count_1 : decode cX11_count 1 = .ok (.tableswitch 114 0 7 #[47, 55, 66, 74, 82, 90, 98, 106], 47) := by decide +kernel
theorem dX11_count_48 : decode cX11_count 48 = .ok (.aload_n 0, 1) := by decide +kernel
theorem dX11_count_49 : decode cX11_count 49 = .ok (.getfield 28, 3) := by decide +kernel
theorem dX11_count_52 : decode cX11_count 52 = .ok (.getfield 92, 3) := by decide +kernel
theorem dX11_count_55 : decode cX11_count 55 = .ok (.ireturn, 1) := by decide +kernel
theorem dX11_count_56 : decode cX11_count 56 = .ok (.aload_n 0, 1) := by decide +kernel
theorem dX11_count_57 : decode cX11_count 57 = .ok (.getfield 28, 3) := by decide +kernel
theorem dX11_count_60 : decode cX11_count 60 = .ok (.getfield 99, 3) := by decide +kernel
theorem dX11_count_63 : decode cX11_count 63 = .ok (.getfield 153, 3) := by decide +kernel
theorem dX11_count_66 : decode cX11_count 66 = .ok (.ireturn, 1) := by decide +kernel
theorem dX11_count_67 : decode cX11_count 67 = .ok (.aload_n 0, 1) := by decide +kernel
theorem dX11_count_68 : decode cX11_count 68 = .ok (.getfield 37, 3) := by decide +kernel
theorem dX11_count_71 : decode cX11_count 71 = .ok (.invokevirtual 303, 3) := by decide +kernel
theorem dX11_count_74 : decode cX11_count 74 = .ok (.ireturn, 1) := by decide +kernel
theorem dX11_count_75 : decode cX11_count 75 = .ok (.aload_n 0, 1) := by decide +kernel
theorem dX11_count_76 : decode cX11_count 76 = .ok (.getfield 53, 3) := by decide +kernel
theorem dX11_count_79 : decode cX11_count 79 = .ok (.getfield 251, 3) := by decide +kernel
theorem dX11_count_82 : decode cX11_count 82 = .ok (.ireturn, 1) := by decide +kernel
theorem dX11_count_83 : decode cX11_count 83 = .ok (.aload_n 0, 1) := by decide +kernel
theorem dX11_count_84 : decode cX11_count 84 = .ok (.getfield 53, 3) := by decide +kernel
theorem dX11_count_87 : decode cX11_count 87 = .ok (.getfield 262, 3) := by decide +kernel
theorem dX11_count_90 : decode cX11_count 90 = .ok (.ireturn, 1) := by decide +kernel
theorem dX11_count_91 : decode cX11_count 91 = .ok (.aload_n 0, 1) := by decide +kernel
theorem dX11_count_92 : decode cX11_count 92 = .ok (.getfield 53, 3) := by decide +kernel
theorem dX11_count_95 : decode cX11_count 95 = .ok (.getfield 306, 3) := by decide +kernel
theorem dX11_count_98 : decode cX11_count 98 = .ok (.ireturn, 1) := by decide +kernel
theorem dX11_count_99 : decode cX11_count 99 = .ok (.aload_n 0, 1) := by decide +kernel
theorem dX11_count_100 : decode cX11_count 100 = .ok (.getfield 76, 3) := by decide +kernel
theorem dX11_count_103 : decode cX11_count 103 = .ok (.getfield 309, 3) := by decide +kernel
theorem dX11_count_106 : decode cX11_count 106 = .ok (.ireturn, 1) := by decide +kernel
theorem dX11_count_107 : decode cX11_count 107 = .ok (.aload_n 0, 1) := by decide +kernel
theorem dX11_count_108 : decode cX11_count 108 = .ok (.getfield 10, 3) := by decide +kernel
theorem dX11_count_111 : decode cX11_count 111 = .ok (.getfield 88, 3) := by decide +kernel
theorem dX11_count_114 : decode cX11_count 114 = .ok (.ireturn, 1) := by decide +kernel
theorem dX11_count_115 : decode cX11_count 115 = .ok (.iconst (-1), 1) := by decide +kernel
theorem dX11_count_116 : decode cX11_count 116 = .ok (.ireturn, 1) := by decide +kernel
def F_X11_count (N : Nat) (a1 : Int32) (h : PH) : Option (Int32 × PH) :=
  if a1 = (0 : Int32) then
    some (h.1 14 1, h)
  else
  if a1 = (1 : Int32) then
    some (h.1 15 1, h)
  else
  if a1 = (2 : Int32) then
    bI (F_X0_howMany N  h) fun r4 h5 =>
    some (r4, h5)
  else
  if a1 = (3 : Int32) then
    some (h.1 51 8, h)
  else
  if a1 = (4 : Int32) then
    some (h.1 51 12, h)
  else
  if a1 = (5 : Int32) then
    some (h.1 51 13, h)
  else
  if a1 = (6 : Int32) then
    some (h.1 99 0, h)
  else
  if a1 = (7 : Int32) then
    some (h.1 1 1, h)
  else
  some ((-1 : Int32), h)
set_option maxRecDepth 20000 in
set_option maxHeartbeats 4000000 in
theorem M_X11_count (E : EV) {N : Nat} {a1 : Int32} {r : Int32} {h h2 : PH} (hyp : F_X11_count N a1 h = some (r, h2)) : MI E 103 yX11_count cX11_count 2 (some .int) 6 140 [.ref 0, .int a1] h r h2 := by
  refine MI.of 0 (by decide) rfl (fun X e1 C => ?_)
  subst e1
  replace C : CX X 103 cX11_count 2 RX11 (some .int) 6 140 := C
  show V X _ h 0 [some (.ref 0), some (.int a1)] []
  unfold F_X11_count at hyp
  refine V_iload_n (pc := 0) C dX11_count_0 rfl ?_
  by_cases q1 : a1 = (0 : Int32)
  · replace hyp := (if_pos q1).symm.trans hyp
    refine V_tsIn (pc := 1) C (0 : Int32) dX11_count_1 (off := 47) (tgt := 48) q1 (by decide) (by decide) rfl (by decide) ?_
    refine V_aload_n (pc := 48) C dX11_count_48 rfl ?_
    refine V_getR (pc := 49) C dX11_count_49 lf_X11_28 fk_0_2 ?_
    refine V_getI (pc := 52) C dX11_count_52 lf_X11_92 fk_14_1 ?_
    cases hyp
    exact V_iret C dX11_count_55
  · replace hyp := (if_neg q1).symm.trans hyp
    by_cases q2 : a1 = (1 : Int32)
    · replace hyp := (if_pos q2).symm.trans hyp
      refine V_tsIn (pc := 1) C (1 : Int32) dX11_count_1 (off := 55) (tgt := 56) q2 (by decide) (by decide) rfl (by decide) ?_
      refine V_aload_n (pc := 56) C dX11_count_56 rfl ?_
      refine V_getR (pc := 57) C dX11_count_57 lf_X11_28 fk_0_2 ?_
      refine V_getR (pc := 60) C dX11_count_60 lf_X11_99 fk_14_0 ?_
      refine V_getI (pc := 63) C dX11_count_63 lf_X11_153 fk_15_1 ?_
      cases hyp
      exact V_iret C dX11_count_66
    · replace hyp := (if_neg q2).symm.trans hyp
      by_cases q3 : a1 = (2 : Int32)
      · replace hyp := (if_pos q3).symm.trans hyp
        refine V_tsIn (pc := 1) C (2 : Int32) dX11_count_1 (off := 66) (tgt := 67) q3 (by decide) (by decide) rfl (by decide) ?_
        refine V_aload_n (pc := 67) C dX11_count_67 rfl ?_
        refine V_getR (pc := 68) C dX11_count_68 lf_X11_37 fk_0_3 ?_
        obtain ⟨r4, h5, eh5, hyp⟩ := bI_n hyp
        refine V_callI (pc := 71) C dX11_count_71 lm_X11_303 mk_X0_howMany ok_21 rfl (M_X0_howMany _ eh5) rfl pd_X0_howMany (by decide) (by decide) (by decide) (As := []) (rest := []) rfl (Nat.le_of_ble_eq_true rfl) ?_
        cases hyp
        exact V_iret C dX11_count_74
      · replace hyp := (if_neg q3).symm.trans hyp
        by_cases q6 : a1 = (3 : Int32)
        · replace hyp := (if_pos q6).symm.trans hyp
          refine V_tsIn (pc := 1) C (3 : Int32) dX11_count_1 (off := 74) (tgt := 75) q6 (by decide) (by decide) rfl (by decide) ?_
          refine V_aload_n (pc := 75) C dX11_count_75 rfl ?_
          refine V_getR (pc := 76) C dX11_count_76 lf_X11_53 fk_0_5 ?_
          refine V_getI (pc := 79) C dX11_count_79 lf_X11_251 fk_51_8 ?_
          cases hyp
          exact V_iret C dX11_count_82
        · replace hyp := (if_neg q6).symm.trans hyp
          by_cases q7 : a1 = (4 : Int32)
          · replace hyp := (if_pos q7).symm.trans hyp
            refine V_tsIn (pc := 1) C (4 : Int32) dX11_count_1 (off := 82) (tgt := 83) q7 (by decide) (by decide) rfl (by decide) ?_
            refine V_aload_n (pc := 83) C dX11_count_83 rfl ?_
            refine V_getR (pc := 84) C dX11_count_84 lf_X11_53 fk_0_5 ?_
            refine V_getI (pc := 87) C dX11_count_87 lf_X11_262 fk_51_12 ?_
            cases hyp
            exact V_iret C dX11_count_90
          · replace hyp := (if_neg q7).symm.trans hyp
            by_cases q8 : a1 = (5 : Int32)
            · replace hyp := (if_pos q8).symm.trans hyp
              refine V_tsIn (pc := 1) C (5 : Int32) dX11_count_1 (off := 90) (tgt := 91) q8 (by decide) (by decide) rfl (by decide) ?_
              refine V_aload_n (pc := 91) C dX11_count_91 rfl ?_
              refine V_getR (pc := 92) C dX11_count_92 lf_X11_53 fk_0_5 ?_
              refine V_getI (pc := 95) C dX11_count_95 lf_X11_306 fk_51_13 ?_
              cases hyp
              exact V_iret C dX11_count_98
            · replace hyp := (if_neg q8).symm.trans hyp
              by_cases q9 : a1 = (6 : Int32)
              · replace hyp := (if_pos q9).symm.trans hyp
                refine V_tsIn (pc := 1) C (6 : Int32) dX11_count_1 (off := 98) (tgt := 99) q9 (by decide) (by decide) rfl (by decide) ?_
                refine V_aload_n (pc := 99) C dX11_count_99 rfl ?_
                refine V_getR (pc := 100) C dX11_count_100 lf_X11_76 fk_0_8 ?_
                refine V_getI (pc := 103) C dX11_count_103 lf_X11_309 fk_99_0 ?_
                cases hyp
                exact V_iret C dX11_count_106
              · replace hyp := (if_neg q9).symm.trans hyp
                by_cases q10 : a1 = (7 : Int32)
                · replace hyp := (if_pos q10).symm.trans hyp
                  refine V_tsIn (pc := 1) C (7 : Int32) dX11_count_1 (off := 106) (tgt := 107) q10 (by decide) (by decide) rfl (by decide) ?_
                  refine V_aload_n (pc := 107) C dX11_count_107 rfl ?_
                  refine V_getR (pc := 108) C dX11_count_108 lf_X11_10 fk_0_0 ?_
                  refine V_getI (pc := 111) C dX11_count_111 lf_X11_88 fk_1_1 ?_
                  cases hyp
                  exact V_iret C dX11_count_114
                · replace hyp := (if_neg q10).symm.trans hyp
                  refine V_tsOut (pc := 1) C dX11_count_1 (tgt := 115) (fun k k1 k2 => ?_) (by decide) ?_
                  · rcases (show k = 0 ∨ k = 1 ∨ k = 2 ∨ k = 3 ∨ k = 4 ∨ k = 5 ∨ k = 6 ∨ k = 7 by omega) with rfl | rfl | rfl | rfl | rfl | rfl | rfl | rfl
                    · exact q1
                    · exact q2
                    · exact q3
                    · exact q6
                    · exact q7
                    · exact q8
                    · exact q9
                    · exact q10
                  · refine V_iconst (pc := 115) C dX11_count_115 (v := -1) (by decide) ?_
                    cases hyp
                    exact V_iret C dX11_count_116
