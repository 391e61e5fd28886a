theorem dX12_forgets_0 : decode cX12_forgets 0 = .ok (.aload_n 0, 1) := by decide +kernel
theorem dX12_forgets_1 : decode cX12_forgets 1 = .ok (.iconst 0, 1) := by decide +kernel
theorem dX12_forgets_2 : decode cX12_forgets 2 = .ok (.putfield 180, 3) := by decide +kernel
theorem dX12_forgets_5 : decode cX12_forgets 5 = .ok (.aload_n 0, 1) := by decide +kernel
theorem dX12_forgets_6 : decode cX12_forgets 6 = .ok (.iload_n 1, 1) := by decide +kernel
theorem dX12_forgets_7 : decode cX12_forgets 7 = .ok (.invokevirtual 376, 3) := by decide +kernel
theorem dX12_forgets_10 : decode cX12_forgets 10 = .ok (.ifCond .eq 22, 3) := by decide +kernel
theorem dX12_forgets_13 : decode cX12_forgets 13 = .ok (.iload_n 2, 1) := by decide +kernel
theorem dX12_forgets_14 : decode cX12_forgets 14 = .ok (.iconst 1, 1) := by decide +kernel
theorem dX12_forgets_15 : decode cX12_forgets 15 = .ok (.bipush 60, 2) := by decide +kernel
theorem dX12_forgets_17 : decode cX12_forgets 17 = .ok (.invokestatic 183, 3) := by decide +kernel
theorem dX12_forgets_20 : decode cX12_forgets 20 = .ok (.ifCond .eq 12, 3) := by decide +kernel
theorem dX12_forgets_23 : decode cX12_forgets 23 = .ok (.iload_n 3, 1) := by decide +kernel
theorem dX12_forgets_24 : decode cX12_forgets 24 = .ok (.iconst 0, 1) := by decide +kernel
theorem dX12_forgets_25 : decode cX12_forgets 25 = .ok (.iconst 1, 1) := by decide +kernel
theorem dX12_forgets_26 : decode cX12_forgets 26 = .ok (.invokestatic 183, 3) := by decide +kernel
theorem dX12_forgets_29 : decode cX12_forgets 29 = .ok (.ifCond .ne 5, 3) := by decide +kernel
theorem dX12_forgets_32 : decode cX12_forgets 32 = .ok (.iconst (-1), 1) := by decide +kernel
theorem dX12_forgets_33 : decode cX12_forgets 33 = .ok (.ireturn, 1) := by decide +kernel
theorem dX12_forgets_34 : decode cX12_forgets 34 = .ok (.aload_n 0, 1) := by decide +kernel
theorem dX12_forgets_35 : decode cX12_forgets 35 = .ok (.iload_n 1, 1) := by decide +kernel
theorem dX12_forgets_36 : decode cX12_forgets 36 = .ok (.iload_n 2, 1) := by decide +kernel
theorem dX12_forgets_37 : decode cX12_forgets 37 = .ok (.invokevirtual 405, 3) := by decide +kernel
theorem dX12_forgets_40 : decode cX12_forgets 40 = .ok (.istore 4, 2) := by decide +kernel
theorem dX12_forgets_42 : decode cX12_forgets 42 = .ok (.iload_n 3, 1) := by decide +kernel
theorem dX12_forgets_43 : decode cX12_forgets 43 = .ok (.ifCond .ne 16, 3) := by decide +kernel
theorem dX12_forgets_46 : decode cX12_forgets 46 = .ok (.iload 4, 2) := by decide +kernel
theorem dX12_forgets_48 : decode cX12_forgets 48 = .ok (.ifCond .ge 7, 3) := by decide +kernel
theorem dX12_forgets_51 : decode cX12_forgets 51 = .ok (.iconst 0, 1) := by decide +kernel
theorem dX12_forgets_52 : decode cX12_forgets 52 = .ok (.goto 23, 3) := by decide +kernel
theorem dX12_forgets_55 : decode cX12_forgets 55 = .ok (.iconst 1, 1) := by decide +kernel
theorem dX12_forgets_56 : decode cX12_forgets 56 = .ok (.goto 19, 3) := by decide +kernel
theorem dX12_forgets_59 : decode cX12_forgets 59 = .ok (.iload 4, 2) := by decide +kernel
theorem dX12_forgets_61 : decode cX12_forgets 61 = .ok (.ifCond .ge 7, 3) := by decide +kernel
theorem dX12_forgets_64 : decode cX12_forgets 64 = .ok (.iconst (-1), 1) := by decide +kernel
theorem dX12_forgets_65 : decode cX12_forgets 65 = .ok (.goto 10, 3) := by decide +kernel
theorem dX12_forgets_68 : decode cX12_forgets 68 = .ok (.aload_n 0, 1) := by decide +kernel
theorem dX12_forgets_69 : decode cX12_forgets 69 = .ok (.getfield 84, 3) := by decide +kernel
theorem dX12_forgets_72 : decode cX12_forgets 72 = .ok (.iload 4, 2) := by decide +kernel
theorem dX12_forgets_74 : decode cX12_forgets 74 = .ok (.iaload, 1) := by decide +kernel
theorem dX12_forgets_75 : decode cX12_forgets 75 = .ok (.ireturn, 1) := by decide +kernel
def F_X12_forgets (N : Nat) (a1 : Int32) (a2 : Int32) (a3 : Int32) (h : PH) : Option (Int32 × PH) :=
  hb (hs h 103 0 (0 : Int32)) fun h1 =>
  bI (F_X12_isFloor a1 h1) fun r2 h3 =>
  if r2 = 0 then
    some ((-1 : Int32), h3)
  else
    bI (F_X12_within a2 (1 : Int32) (60 : Int32) h3) fun r5 h6 =>
    if r5 = 0 then
      some ((-1 : Int32), h6)
    else
      bI (F_X12_within a3 (0 : Int32) (1 : Int32) h6) fun r8 h9 =>
      if r8 = 0 then
        some ((-1 : Int32), h9)
      else
        bI (F_X12_forgotten N a1 a2 h9) fun r11 h12 =>
        if a3 = 0 then
          if 0 ≤ r11 then
            some ((1 : Int32), h12)
          else
            some ((0 : Int32), h12)
        else
          if 0 ≤ r11 then
            if inb r11 3072 = true then
            some (h12.1 127 r11.toNatClampNeg, h12)
            else none
          else
            some ((-1 : Int32), h12)
set_option maxRecDepth 20000 in
set_option maxHeartbeats 4000000 in
theorem M_X12_forgets (E : EV) {N : Nat} {a1 : Int32} {a2 : Int32} {a3 : Int32} {r : Int32} {h h2 : PH} (hyp : F_X12_forgets N a1 a2 a3 h = some (r, h2)) : MI E 154 yX12_forgets cX12_forgets 5 (some .int) 8 186 [.ref 103, .int a1, .int a2, .int a3] h r h2 := by
  refine MI.of 1 (by decide) rfl (fun X e1 C => ?_)
  subst e1
  replace C : CX X 154 cX12_forgets 5 RX12 (some .int) 8 186 := C
  show V X _ h 0 [some (.ref 103), some (.int a1), some (.int a2), some (.int a3), none] []
  unfold F_X12_forgets at hyp
  refine V_aload_n (pc := 0) C dX12_forgets_0 rfl ?_
  refine V_iconst (pc := 1) C dX12_forgets_1 (v := 0) (by decide) ?_
  obtain ⟨h1, eh1, hyp⟩ := hb_n hyp
  refine V_putI (pc := 2) C dX12_forgets_2 lf_X12_180 fk_103_0 rfl rfl eh1 ?_
  refine V_aload_n (pc := 5) C dX12_forgets_5 rfl ?_
  refine V_iload_n (pc := 6) C dX12_forgets_6 rfl ?_
  obtain ⟨r2, h3, eh3, hyp⟩ := bI_n hyp
  refine V_callI (pc := 7) C dX12_forgets_7 lm_X12_376 mk_X12_isFloor ok_103 rfl (M_X12_isFloor _ eh3) rfl pd_X12_isFloor (by decide) (by decide) (by decide) (As := [.int a1]) (rest := []) rfl (Nat.le_of_ble_eq_true rfl) ?_
  refine V_if_eq (pc := 10) C dX12_forgets_10 (tgt := 32) (by decide) (fun q4 => ?_) (fun q4 => ?_)
  · replace hyp := (if_pos q4).symm.trans hyp
    refine V_iconst (pc := 32) C dX12_forgets_32 (v := -1) (by decide) ?_
    cases hyp
    exact V_iret C dX12_forgets_33
  · replace hyp := (if_neg q4).symm.trans hyp
    refine V_iload_n (pc := 13) C dX12_forgets_13 rfl ?_
    refine V_iconst (pc := 14) C dX12_forgets_14 (v := 1) (by decide) ?_
    refine V_bipush (pc := 15) C dX12_forgets_15 (v := 60) (by decide) ?_
    obtain ⟨r5, h6, eh6, hyp⟩ := bI_n hyp
    refine V_statI (pc := 17) C dX12_forgets_17 lm_X12_183 ms_X12_within (M_X12_within _ eh6) rfl pd_X12_within (by decide) (by decide) (by decide) (As := [.int a2, .int (1 : Int32), .int (60 : Int32)]) (rest := []) rfl (Nat.le_of_ble_eq_true rfl) ?_
    refine V_if_eq (pc := 20) C dX12_forgets_20 (tgt := 32) (by decide) (fun q7 => ?_) (fun q7 => ?_)
    · replace hyp := (if_pos q7).symm.trans hyp
      refine V_iconst (pc := 32) C dX12_forgets_32 (v := -1) (by decide) ?_
      cases hyp
      exact V_iret C dX12_forgets_33
    · replace hyp := (if_neg q7).symm.trans hyp
      refine V_iload_n (pc := 23) C dX12_forgets_23 rfl ?_
      refine V_iconst (pc := 24) C dX12_forgets_24 (v := 0) (by decide) ?_
      refine V_iconst (pc := 25) C dX12_forgets_25 (v := 1) (by decide) ?_
      obtain ⟨r8, h9, eh9, hyp⟩ := bI_n hyp
      refine V_statI (pc := 26) C dX12_forgets_26 lm_X12_183 ms_X12_within (M_X12_within _ eh9) rfl pd_X12_within (by decide) (by decide) (by decide) (As := [.int a3, .int (0 : Int32), .int (1 : Int32)]) (rest := []) rfl (Nat.le_of_ble_eq_true rfl) ?_
      refine V_if_ne (pc := 29) C dX12_forgets_29 (tgt := 34) (by decide) (fun q10 => ?_) (fun q10 => ?_)
      · replace hyp := (if_neg q10).symm.trans hyp
        refine V_aload_n (pc := 34) C dX12_forgets_34 rfl ?_
        refine V_iload_n (pc := 35) C dX12_forgets_35 rfl ?_
        refine V_iload_n (pc := 36) C dX12_forgets_36 rfl ?_
        obtain ⟨r11, h12, eh12, hyp⟩ := bI_n hyp
        refine V_callI (pc := 37) C dX12_forgets_37 lm_X12_405 mk_X12_forgotten ok_103 rfl (M_X12_forgotten _ eh12) rfl pd_X12_forgotten (by decide) (by decide) (by decide) (As := [.int a1, .int a2]) (rest := []) rfl (Nat.le_of_ble_eq_true rfl) ?_
        refine V_istore (pc := 40) C dX12_forgets_40 (by decide) rfl ?_
        refine V_iload_n (pc := 42) C dX12_forgets_42 rfl ?_
        refine V_if_ne (pc := 43) C dX12_forgets_43 (tgt := 59) (by decide) (fun q13 => ?_) (fun q13 => ?_)
        · replace hyp := (if_neg q13).symm.trans hyp
          refine V_iload (pc := 59) C dX12_forgets_59 rfl ?_
          refine V_if_ge (pc := 61) C dX12_forgets_61 (tgt := 68) (by decide) (fun q14 => ?_) (fun q14 => ?_)
          · replace hyp := (if_pos q14).symm.trans hyp
            refine V_aload_n (pc := 68) C dX12_forgets_68 rfl ?_
            refine V_getR (pc := 69) C dX12_forgets_69 lf_X12_84 fk_103_42 ?_
            refine V_iload (pc := 72) C dX12_forgets_72 rfl ?_
            obtain ⟨g15, hyp⟩ := gd_n hyp
            refine V_iald (pc := 74) C dX12_forgets_74 ak_127 g15 ?_
            cases hyp
            exact V_iret C dX12_forgets_75
          · replace hyp := (if_neg q14).symm.trans hyp
            refine V_iconst (pc := 64) C dX12_forgets_64 (v := -1) (by decide) ?_
            refine V_goto (pc := 65) C dX12_forgets_65 (tgt := 75) (by decide) ?_
            cases hyp
            exact V_iret C dX12_forgets_75
        · replace hyp := (if_pos q13).symm.trans hyp
          refine V_iload (pc := 46) C dX12_forgets_46 rfl ?_
          refine V_if_ge (pc := 48) C dX12_forgets_48 (tgt := 55) (by decide) (fun q16 => ?_) (fun q16 => ?_)
          · replace hyp := (if_pos q16).symm.trans hyp
            refine V_iconst (pc := 55) C dX12_forgets_55 (v := 1) (by decide) ?_
            refine V_goto (pc := 56) C dX12_forgets_56 (tgt := 75) (by decide) ?_
            cases hyp
            exact V_iret C dX12_forgets_75
          · replace hyp := (if_neg q16).symm.trans hyp
            refine V_iconst (pc := 51) C dX12_forgets_51 (v := 0) (by decide) ?_
            refine V_goto (pc := 52) C dX12_forgets_52 (tgt := 75) (by decide) ?_
            cases hyp
            exact V_iret C dX12_forgets_75
      · replace hyp := (if_pos q10).symm.trans hyp
        refine V_iconst (pc := 32) C dX12_forgets_32 (v := -1) (by decide) ?_
        cases hyp
        exact V_iret C dX12_forgets_33
theorem dX12_forgetsRow_0 : decode cX12_forgetsRow 0 = .ok (.aload_n 0, 1) := by decide +kernel
theorem dX12_forgetsRow_1 : decode cX12_forgetsRow 1 = .ok (.iconst 0, 1) := by decide +kernel
theorem dX12_forgetsRow_2 : decode cX12_forgetsRow 2 = .ok (.putfield 180, 3) := by decide +kernel
theorem dX12_forgetsRow_5 : decode cX12_forgetsRow 5 = .ok (.aload_n 0, 1) := by decide +kernel
theorem dX12_forgetsRow_6 : decode cX12_forgetsRow 6 = .ok (.iload_n 1, 1) := by decide +kernel
theorem dX12_forgetsRow_7 : decode cX12_forgetsRow 7 = .ok (.invokevirtual 376, 3) := by decide +kernel
theorem dX12_forgetsRow_10 : decode cX12_forgetsRow 10 = .ok (.ifCond .eq 27, 3) := by decide +kernel
theorem dX12_forgetsRow_13 : decode cX12_forgetsRow 13 = .ok (.iload_n 2, 1) := by decide +kernel
theorem dX12_forgetsRow_14 : decode cX12_forgetsRow 14 = .ok (.iconst 1, 1) := by decide +kernel
theorem dX12_forgetsRow_15 : decode cX12_forgetsRow 15 = .ok (.bipush 60, 2) := by decide +kernel
theorem dX12_forgetsRow_17 : decode cX12_forgetsRow 17 = .ok (.invokestatic 183, 3) := by decide +kernel
theorem dX12_forgetsRow_20 : decode cX12_forgetsRow 20 = .ok (.ifCond .eq 17, 3) := by decide +kernel
theorem dX12_forgetsRow_23 : decode cX12_forgetsRow 23 = .ok (.aload_n 0, 1) := by decide +kernel
theorem dX12_forgetsRow_24 : decode cX12_forgetsRow 24 = .ok (.aload_n 0, 1) := by decide +kernel
theorem dX12_forgetsRow_25 : decode cX12_forgetsRow 25 = .ok (.iload_n 1, 1) := by decide +kernel
theorem dX12_forgetsRow_26 : decode cX12_forgetsRow 26 = .ok (.iload_n 2, 1) := by decide +kernel
theorem dX12_forgetsRow_27 : decode cX12_forgetsRow 27 = .ok (.invokevirtual 405, 3) := by decide +kernel
theorem dX12_forgetsRow_30 : decode cX12_forgetsRow 30 = .ok (.iload_n 3, 1) := by decide +kernel
theorem dX12_forgetsRow_31 : decode cX12_forgetsRow 31 = .ok (.invokevirtual 402, 3) := by decide +kernel
theorem dX12_forgetsRow_34 : decode cX12_forgetsRow 34 = .ok (.goto 4, 3) := by decide +kernel
theorem dX12_forgetsRow_37 : decode cX12_forgetsRow 37 = .ok (.iconst (-1), 1) := by decide +kernel
theorem dX12_forgetsRow_38 : decode cX12_forgetsRow 38 = .ok (.ireturn, 1) := by decide +kernel
def F_X12_forgetsRow_b37 (N : Nat) (h : PH) : Option (Int32 × PH) :=
  some ((-1 : Int32), h)
set_option maxRecDepth 20000 in
set_option maxHeartbeats 4000000 in
theorem T_X12_forgetsRow_b37 {X : CT} (C : CX X 154 cX12_forgetsRow 4 RX12 (some .int) 8 186) {r0 : Int32} {h0 : PH} {N : Nat} : ∀ (h : PH), F_X12_forgetsRow_b37 N  h = some (r0, h0) → V X (QI X r0 h0) h 37 [none, none, none, none] [] := by
  intro  h hyp
  unfold F_X12_forgetsRow_b37 at hyp
  refine V_iconst (pc := 37) C dX12_forgetsRow_37 (v := -1) (by decide) ?_
  cases hyp
  exact V_iret C dX12_forgetsRow_38
def F_X12_forgetsRow (N : Nat) (a1 : Int32) (a2 : Int32) (a3 : Int32) (h : PH) : Option (Int32 × PH) :=
  hb (hs h 103 0 (0 : Int32)) fun h1 =>
  bI (F_X12_isFloor a1 h1) fun r2 h3 =>
  if r2 = 0 then
    F_X12_forgetsRow_b37 N  h3
  else
    bI (F_X12_within a2 (1 : Int32) (60 : Int32) h3) fun r5 h6 =>
    if r5 = 0 then
      F_X12_forgetsRow_b37 N  h6
    else
      bI (F_X12_forgotten N a1 a2 h6) fun r8 h9 =>
      bI (F_X12_rowTo N r8 a3 h9) fun r10 h11 =>
      some (r10, h11)
set_option maxRecDepth 20000 in
set_option maxHeartbeats 4000000 in
theorem M_X12_forgetsRow (E : EV) {N : Nat} {a1 : Int32} {a2 : Int32} {a3 : Int32} {r : Int32} {h h2 : PH} (hyp : F_X12_forgetsRow N a1 a2 a3 h = some (r, h2)) : MI E 154 yX12_forgetsRow cX12_forgetsRow 4 (some .int) 8 186 [.ref 103, .int a1, .int a2, .int a3] h r h2 := by
  refine MI.of 0 (by decide) rfl (fun X e1 C => ?_)
  subst e1
  replace C : CX X 154 cX12_forgetsRow 4 RX12 (some .int) 8 186 := C
  show V X _ h 0 [some (.ref 103), some (.int a1), some (.int a2), some (.int a3)] []
  unfold F_X12_forgetsRow at hyp
  refine V_aload_n (pc := 0) C dX12_forgetsRow_0 rfl ?_
  refine V_iconst (pc := 1) C dX12_forgetsRow_1 (v := 0) (by decide) ?_
  obtain ⟨h1, eh1, hyp⟩ := hb_n hyp
  refine V_putI (pc := 2) C dX12_forgetsRow_2 lf_X12_180 fk_103_0 rfl rfl eh1 ?_
  refine V_aload_n (pc := 5) C dX12_forgetsRow_5 rfl ?_
  refine V_iload_n (pc := 6) C dX12_forgetsRow_6 rfl ?_
  obtain ⟨r2, h3, eh3, hyp⟩ := bI_n hyp
  refine V_callI (pc := 7) C dX12_forgetsRow_7 lm_X12_376 mk_X12_isFloor ok_103 rfl (M_X12_isFloor _ eh3) rfl pd_X12_isFloor (by decide) (by decide) (by decide) (As := [.int a1]) (rest := []) rfl (Nat.le_of_ble_eq_true rfl) ?_
  refine V_if_eq (pc := 10) C dX12_forgetsRow_10 (tgt := 37) (by decide) (fun q4 => ?_) (fun q4 => ?_)
  · replace hyp := (if_pos q4).symm.trans hyp
    refine V_weak (lv' := [none, none, none, none]) (lvle_n (lvle_n (lvle_n (lvle_n lvle_0)))) ?_
    exact (T_X12_forgetsRow_b37 C) h3 hyp
  · replace hyp := (if_neg q4).symm.trans hyp
    refine V_iload_n (pc := 13) C dX12_forgetsRow_13 rfl ?_
    refine V_iconst (pc := 14) C dX12_forgetsRow_14 (v := 1) (by decide) ?_
    refine V_bipush (pc := 15) C dX12_forgetsRow_15 (v := 60) (by decide) ?_
    obtain ⟨r5, h6, eh6, hyp⟩ := bI_n hyp
    refine V_statI (pc := 17) C dX12_forgetsRow_17 lm_X12_183 ms_X12_within (M_X12_within _ eh6) rfl pd_X12_within (by decide) (by decide) (by decide) (As := [.int a2, .int (1 : Int32), .int (60 : Int32)]) (rest := []) rfl (Nat.le_of_ble_eq_true rfl) ?_
    refine V_if_eq (pc := 20) C dX12_forgetsRow_20 (tgt := 37) (by decide) (fun q7 => ?_) (fun q7 => ?_)
    · replace hyp := (if_pos q7).symm.trans hyp
      refine V_weak (lv' := [none, none, none, none]) (lvle_n (lvle_n (lvle_n (lvle_n lvle_0)))) ?_
      exact (T_X12_forgetsRow_b37 C) h6 hyp
    · replace hyp := (if_neg q7).symm.trans hyp
      refine V_aload_n (pc := 23) C dX12_forgetsRow_23 rfl ?_
      refine V_aload_n (pc := 24) C dX12_forgetsRow_24 rfl ?_
      refine V_iload_n (pc := 25) C dX12_forgetsRow_25 rfl ?_
      refine V_iload_n (pc := 26) C dX12_forgetsRow_26 rfl ?_
      obtain ⟨r8, h9, eh9, hyp⟩ := bI_n hyp
      refine V_callI (pc := 27) C dX12_forgetsRow_27 lm_X12_405 mk_X12_forgotten ok_103 rfl (M_X12_forgotten _ eh9) rfl pd_X12_forgotten (by decide) (by decide) (by decide) (As := [.int a1, .int a2]) (rest := [.ref 103]) rfl (Nat.le_of_ble_eq_true rfl) ?_
      refine V_iload_n (pc := 30) C dX12_forgetsRow_30 rfl ?_
      obtain ⟨r10, h11, eh11, hyp⟩ := bI_n hyp
      refine V_callI (pc := 31) C dX12_forgetsRow_31 lm_X12_402 mk_X12_rowTo ok_103 rfl (M_X12_rowTo _ eh11) rfl pd_X12_rowTo (by decide) (by decide) (by decide) (As := [.int r8, .int a3]) (rest := []) rfl (Nat.le_of_ble_eq_true rfl) ?_
      refine V_goto (pc := 34) C dX12_forgetsRow_34 (tgt := 38) (by decide) ?_
      cases hyp
      exact V_iret C dX12_forgetsRow_38
theorem dX12_stuck_0 : decode cX12_stuck 0 = .ok (.aload_n 0, 1) := by decide +kernel
theorem dX12_stuck_1 : decode cX12_stuck 1 = .ok (.iconst 0, 1) := by decide +kernel
theorem dX12_stuck_2 : decode cX12_stuck 2 = .ok (.putfield 180, 3) := by decide +kernel
theorem dX12_stuck_5 : decode cX12_stuck 5 = .ok (.iload_n 1, 1) := by decide +kernel
theorem dX12_stuck_6 : decode cX12_stuck 6 = .ok (.iconst 0, 1) := by decide +kernel
theorem dX12_stuck_7 : decode cX12_stuck 7 = .ok (.sipush 255, 3) := by decide +kernel
theorem dX12_stuck_10 : decode cX12_stuck 10 = .ok (.invokestatic 183, 3) := by decide +kernel
theorem dX12_stuck_13 : decode cX12_stuck 13 = .ok (.ifCond .ne 5, 3) := by decide +kernel
theorem dX12_stuck_16 : decode cX12_stuck 16 = .ok (.iconst (-1), 1) := by decide +kernel
theorem dX12_stuck_17 : decode cX12_stuck 17 = .ok (.ireturn, 1) := by decide +kernel
theorem dX12_stuck_18 : decode cX12_stuck 18 = .ok (.aload_n 0, 1) := by decide +kernel
theorem dX12_stuck_19 : decode cX12_stuck 19 = .ok (.invokevirtual 393, 3) := by decide +kernel
theorem dX12_stuck_22 : decode cX12_stuck 22 = .ok (.aload_n 0, 1) := by decide +kernel
theorem dX12_stuck_23 : decode cX12_stuck 23 = .ok (.iconst 1, 1) := by decide +kernel
theorem dX12_stuck_24 : decode cX12_stuck 24 = .ok (.putfield 197, 3) := by decide +kernel
theorem dX12_stuck_27 : decode cX12_stuck 27 = .ok (.aload_n 0, 1) := by decide +kernel
theorem dX12_stuck_28 : decode cX12_stuck 28 = .ok (.getfield 99, 3) := by decide +kernel
theorem dX12_stuck_31 : decode cX12_stuck 31 = .ok (.iconst 0, 1) := by decide +kernel
theorem dX12_stuck_32 : decode cX12_stuck 32 = .ok (.iconst 0, 1) := by decide +kernel
theorem dX12_stuck_33 : decode cX12_stuck 33 = .ok (.iastore, 1) := by decide +kernel
theorem dX12_stuck_34 : decode cX12_stuck 34 = .ok (.iconst 0, 1) := by decide +kernel
theorem dX12_stuck_35 : decode cX12_stuck 35 = .ok (.istore_n 2, 1) := by decide +kernel
theorem dX12_stuck_36 : decode cX12_stuck 36 = .ok (.iload_n 2, 1) := by decide +kernel
theorem dX12_stuck_37 : decode cX12_stuck 37 = .ok (.aload_n 0, 1) := by decide +kernel
theorem dX12_stuck_38 : decode cX12_stuck 38 = .ok (.getfield 386, 3) := by decide +kernel
theorem dX12_stuck_41 : decode cX12_stuck 41 = .ok (.if_icmp .ge 51, 3) := by decide +kernel
theorem dX12_stuck_44 : decode cX12_stuck 44 = .ok (.aload_n 0, 1) := by decide +kernel
theorem dX12_stuck_45 : decode cX12_stuck 45 = .ok (.getfield 93, 3) := by decide +kernel
theorem dX12_stuck_48 : decode cX12_stuck 48 = .ok (.aload_n 0, 1) := by decide +kernel
theorem dX12_stuck_49 : decode cX12_stuck 49 = .ok (.getfield 75, 3) := by decide +kernel
theorem dX12_stuck_52 : decode cX12_stuck 52 = .ok (.iload_n 2, 1) := by decide +kernel
theorem dX12_stuck_53 : decode cX12_stuck 53 = .ok (.iaload, 1) := by decide +kernel
theorem dX12_stuck_54 : decode cX12_stuck 54 = .ok (.iaload, 1) := by decide +kernel
theorem dX12_stuck_55 : decode cX12_stuck 55 = .ok (.iload_n 1, 1) := by decide +kernel
theorem dX12_stuck_56 : decode cX12_stuck 56 = .ok (.if_icmp .ne 30, 3) := by decide +kernel
theorem dX12_stuck_59 : decode cX12_stuck 59 = .ok (.aload_n 0, 1) := by decide +kernel
theorem dX12_stuck_60 : decode cX12_stuck 60 = .ok (.getfield 96, 3) := by decide +kernel
theorem dX12_stuck_63 : decode cX12_stuck 63 = .ok (.aload_n 0, 1) := by decide +kernel
theorem dX12_stuck_64 : decode cX12_stuck 64 = .ok (.getfield 99, 3) := by decide +kernel
theorem dX12_stuck_67 : decode cX12_stuck 67 = .ok (.iconst 0, 1) := by decide +kernel
theorem dX12_stuck_68 : decode cX12_stuck 68 = .ok (.iaload, 1) := by decide +kernel
theorem dX12_stuck_69 : decode cX12_stuck 69 = .ok (.aload_n 0, 1) := by decide +kernel
theorem dX12_stuck_70 : decode cX12_stuck 70 = .ok (.getfield 75, 3) := by decide +kernel
theorem dX12_stuck_73 : decode cX12_stuck 73 = .ok (.iload_n 2, 1) := by decide +kernel
theorem dX12_stuck_74 : decode cX12_stuck 74 = .ok (.iaload, 1) := by decide +kernel
theorem dX12_stuck_75 : decode cX12_stuck 75 = .ok (.iastore, 1) := by decide +kernel
theorem dX12_stuck_76 : decode cX12_stuck 76 = .ok (.aload_n 0, 1) := by decide +kernel
theorem dX12_stuck_77 : decode cX12_stuck 77 = .ok (.getfield 99, 3) := by decide +kernel
theorem dX12_stuck_80 : decode cX12_stuck 80 = .ok (.iconst 0, 1) := by decide +kernel
theorem dX12_stuck_81 : decode cX12_stuck 81 = .ok (.dup2, 1) := by decide +kernel
theorem dX12_stuck_82 : decode cX12_stuck 82 = .ok (.iaload, 1) := by decide +kernel
theorem dX12_stuck_83 : decode cX12_stuck 83 = .ok (.iconst 1, 1) := by decide +kernel
theorem dX12_stuck_84 : decode cX12_stuck 84 = .ok (.iadd, 1) := by decide +kernel
theorem dX12_stuck_85 : decode cX12_stuck 85 = .ok (.iastore, 1) := by decide +kernel
theorem dX12_stuck_86 : decode cX12_stuck 86 = .ok (.iinc 2 1, 3) := by decide +kernel
theorem dX12_stuck_89 : decode cX12_stuck 89 = .ok (.goto (-53), 3) := by decide +kernel
theorem dX12_stuck_92 : decode cX12_stuck 92 = .ok (.aload_n 0, 1) := by decide +kernel
theorem dX12_stuck_93 : decode cX12_stuck 93 = .ok (.getfield 99, 3) := by decide +kernel
theorem dX12_stuck_96 : decode cX12_stuck 96 = .ok (.iconst 0, 1) := by decide +kernel
theorem dX12_stuck_97 : decode cX12_stuck 97 = .ok (.iaload, 1) := by decide +kernel
theorem dX12_stuck_98 : decode cX12_stuck 98 = .ok (.ireturn, 1) := by decide +kernel
def F_X12_stuck_b86 (N : Nat) (rc36 : Int32 → Int32 → PH → Option (Int32 × PH)) (x1 : Int32) (x2 : Int32) (h : PH) : Option (Int32 × PH) :=
  ib (x2 + (1 : Int32)) fun v1 =>
  rc36 x1 v1 h
set_option maxRecDepth 20000 in
set_option maxHeartbeats 4000000 in
theorem T_X12_stuck_b86 {X : CT} (C : CX X 154 cX12_stuck 3 RX12 (some .int) 7 160) {r0 : Int32} {h0 : PH} {N : Nat} {rc36 : Int32 → Int32 → PH → Option (Int32 × PH)} (hr36 : ∀ (x1 : Int32) (x2 : Int32) (h : PH), rc36 x1 x2 h = some (r0, h0) → V X (QI X r0 h0) h 36 [some (.ref 103), some (.int x1), some (.int x2)] []) : ∀ (x1 : Int32) (x2 : Int32) (h : PH), F_X12_stuck_b86 N rc36 x1 x2 h = some (r0, h0) → V X (QI X r0 h0) h 86 [some (.ref 103), some (.int x1), some (.int x2)] [] := by
  intro x1 x2 h hyp
  unfold F_X12_stuck_b86 at hyp
  obtain ⟨v1, ev1, hyp⟩ := ib_n hyp
  refine V_iinc (pc := 86) C dX12_stuck_86 (v := v1) rfl (by rw [ev1]; rfl) (by decide) rfl ?_
  refine V_goto (pc := 89) C dX12_stuck_89 (tgt := 36) (by decide) ?_
  refine V_weak (lv' := [some (.ref 103), some (.int x1), some (.int v1)]) (lvle_s (lvle_s (lvle_s lvle_0))) ?_
  exact hr36 x1 v1 h hyp
def F_X12_stuck_b92 (N : Nat) (h : PH) : Option (Int32 × PH) :=
  if inb (0 : Int32) 4 = true then
  some (h.1 132 (0 : Int32).toNatClampNeg, h)
  else none
set_option maxRecDepth 20000 in
set_option maxHeartbeats 4000000 in
theorem T_X12_stuck_b92 {X : CT} (C : CX X 154 cX12_stuck 3 RX12 (some .int) 7 160) {r0 : Int32} {h0 : PH} {N : Nat} : ∀ (h : PH), F_X12_stuck_b92 N  h = some (r0, h0) → V X (QI X r0 h0) h 92 [some (.ref 103), none, none] [] := by
  intro  h hyp
  unfold F_X12_stuck_b92 at hyp
  refine V_aload_n (pc := 92) C dX12_stuck_92 rfl ?_
  refine V_getR (pc := 93) C dX12_stuck_93 lf_X12_99 fk_103_48 ?_
  refine V_iconst (pc := 96) C dX12_stuck_96 (v := 0) (by decide) ?_
  obtain ⟨g1, hyp⟩ := gd_n hyp
  refine V_iald (pc := 97) C dX12_stuck_97 ak_132 g1 ?_
  cases hyp
  exact V_iret C dX12_stuck_98
def F_X12_stuck_b36 (N : Nat) : Nat → Int32 → Int32 → PH → Option (Int32 × PH)
  | 0, _, _, _ => none
  | n + 1, x1, x2, h =>
    if (h.1 103 38) ≤ x2 then
      F_X12_stuck_b92 N  h
    else
      if inb x2 3072 = true then
      if inb (h.1 124 x2.toNatClampNeg) 3072 = true then
      if (h.1 130 (h.1 124 x2.toNatClampNeg).toNatClampNeg) = x1 then
        if inb (0 : Int32) 4 = true then
        if inb x2 3072 = true then
        if inb (h.1 132 (0 : Int32).toNatClampNeg) 12288 = true then
        hb (hs h 131 (h.1 132 (0 : Int32).toNatClampNeg).toNatClampNeg (h.1 124 x2.toNatClampNeg)) fun h8 =>
        hb (hs h8 132 (0 : Int32).toNatClampNeg ((h8.1 132 (0 : Int32).toNatClampNeg) + (1 : Int32))) fun h9 =>
        F_X12_stuck_b86 N (F_X12_stuck_b36 N n) x1 x2 h9
        else none
        else none
        else none
      else
        F_X12_stuck_b86 N (F_X12_stuck_b36 N n) x1 x2 h
      else none
      else none
set_option maxRecDepth 20000 in
set_option maxHeartbeats 4000000 in
theorem T_X12_stuck_b36 {X : CT} (C : CX X 154 cX12_stuck 3 RX12 (some .int) 7 160) {r0 : Int32} {h0 : PH} {N : Nat} : ∀ (n : Nat) (x1 : Int32) (x2 : Int32) (h : PH), F_X12_stuck_b36 N n x1 x2 h = some (r0, h0) → V X (QI X r0 h0) h 36 [some (.ref 103), some (.int x1), some (.int x2)] [] := by
  intro n
  induction n with
  | zero =>
    intro x1 x2 h hyp
    cases hyp
  | succ n ih =>
    intro x1 x2 h hyp
    unfold F_X12_stuck_b36 at hyp
    refine V_iload_n (pc := 36) C dX12_stuck_36 rfl ?_
    refine V_aload_n (pc := 37) C dX12_stuck_37 rfl ?_
    refine V_getI (pc := 38) C dX12_stuck_38 lf_X12_386 fk_103_38 ?_
    refine V_icmp_ge (pc := 41) C dX12_stuck_41 (tgt := 92) (by decide) (fun q1 => ?_) (fun q1 => ?_)
    · replace hyp := (if_pos q1).symm.trans hyp
      refine V_weak (lv' := [some (.ref 103), none, none]) (lvle_s (lvle_n (lvle_n lvle_0))) ?_
      exact (T_X12_stuck_b92 C) h hyp
    · replace hyp := (if_neg q1).symm.trans hyp
      refine V_aload_n (pc := 44) C dX12_stuck_44 rfl ?_
      refine V_getR (pc := 45) C dX12_stuck_45 lf_X12_93 fk_103_45 ?_
      refine V_aload_n (pc := 48) C dX12_stuck_48 rfl ?_
      refine V_getR (pc := 49) C dX12_stuck_49 lf_X12_75 fk_103_39 ?_
      refine V_iload_n (pc := 52) C dX12_stuck_52 rfl ?_
      obtain ⟨g2, hyp⟩ := gd_n hyp
      refine V_iald (pc := 53) C dX12_stuck_53 ak_124 g2 ?_
      obtain ⟨g3, hyp⟩ := gd_n hyp
      refine V_iald (pc := 54) C dX12_stuck_54 ak_130 g3 ?_
      refine V_iload_n (pc := 55) C dX12_stuck_55 rfl ?_
      refine V_icmp_ne (pc := 56) C dX12_stuck_56 (tgt := 86) (by decide) (fun q4 => ?_) (fun q4 => ?_)
      · replace hyp := (if_neg q4).symm.trans hyp
        refine V_weak (lv' := [some (.ref 103), some (.int x1), some (.int x2)]) (lvle_s (lvle_s (lvle_s lvle_0))) ?_
        exact (T_X12_stuck_b86 C ih) x1 x2 h hyp
      · replace hyp := (if_pos q4).symm.trans hyp
        refine V_aload_n (pc := 59) C dX12_stuck_59 rfl ?_
        refine V_getR (pc := 60) C dX12_stuck_60 lf_X12_96 fk_103_47 ?_
        refine V_aload_n (pc := 63) C dX12_stuck_63 rfl ?_
        refine V_getR (pc := 64) C dX12_stuck_64 lf_X12_99 fk_103_48 ?_
        refine V_iconst (pc := 67) C dX12_stuck_67 (v := 0) (by decide) ?_
        obtain ⟨g5, hyp⟩ := gd_n hyp
        refine V_iald (pc := 68) C dX12_stuck_68 ak_132 g5 ?_
        refine V_aload_n (pc := 69) C dX12_stuck_69 rfl ?_
        refine V_getR (pc := 70) C dX12_stuck_70 lf_X12_75 fk_103_39 ?_
        refine V_iload_n (pc := 73) C dX12_stuck_73 rfl ?_
        obtain ⟨g6, hyp⟩ := gd_n hyp
        refine V_iald (pc := 74) C dX12_stuck_74 ak_124 g6 ?_
        obtain ⟨g7, hyp⟩ := gd_n hyp
        obtain ⟨h8, eh8, hyp⟩ := hb_n hyp
        refine V_iast (pc := 75) C dX12_stuck_75 ak_131 g7 eh8 ?_
        refine V_aload_n (pc := 76) C dX12_stuck_76 rfl ?_
        refine V_getR (pc := 77) C dX12_stuck_77 lf_X12_99 fk_103_48 ?_
        refine V_iconst (pc := 80) C dX12_stuck_80 (v := 0) (by decide) ?_
        refine V_dup2 (pc := 81) C dX12_stuck_81 rfl rfl ?_
        refine V_iald (pc := 82) C dX12_stuck_82 ak_132 g5 ?_
        refine V_iconst (pc := 83) C dX12_stuck_83 (v := 1) (by decide) ?_
        refine V_iadd (pc := 84) C dX12_stuck_84 ?_
        obtain ⟨h9, eh9, hyp⟩ := hb_n hyp
        refine V_iast (pc := 85) C dX12_stuck_85 ak_132 g5 eh9 ?_
        refine V_weak (lv' := [some (.ref 103), some (.int x1), some (.int x2)]) (lvle_s (lvle_s (lvle_s lvle_0))) ?_
        exact (T_X12_stuck_b86 C ih) x1 x2 h9 hyp
def F_X12_stuck (N : Nat) (a1 : Int32) (h : PH) : Option (Int32 × PH) :=
  hb (hs h 103 0 (0 : Int32)) fun h1 =>
  bI (F_X12_within a1 (0 : Int32) (255 : Int32) h1) fun r2 h3 =>
  if r2 = 0 then
    some ((-1 : Int32), h3)
  else
    bV (F_X12_goesThrough N  h3) fun h6 =>
    hb (hs h6 103 46 (1 : Int32)) fun h7 =>
    if inb (0 : Int32) 4 = true then
    hb (hs h7 132 (0 : Int32).toNatClampNeg (0 : Int32)) fun h9 =>
    F_X12_stuck_b36 N N a1 (0 : Int32) h9
    else none
set_option maxRecDepth 20000 in
set_option maxHeartbeats 4000000 in
theorem M_X12_stuck (E : EV) {N : Nat} {a1 : Int32} {r : Int32} {h h2 : PH} (hyp : F_X12_stuck N a1 h = some (r, h2)) : MI E 154 yX12_stuck cX12_stuck 3 (some .int) 7 160 [.ref 103, .int a1] h r h2 := by
  refine MI.of 1 (by decide) rfl (fun X e1 C => ?_)
  subst e1
  replace C : CX X 154 cX12_stuck 3 RX12 (some .int) 7 160 := C
  show V X _ h 0 [some (.ref 103), some (.int a1), none] []
  unfold F_X12_stuck at hyp
  refine V_aload_n (pc := 0) C dX12_stuck_0 rfl ?_
  refine V_iconst (pc := 1) C dX12_stuck_1 (v := 0) (by decide) ?_
  obtain ⟨h1, eh1, hyp⟩ := hb_n hyp
  refine V_putI (pc := 2) C dX12_stuck_2 lf_X12_180 fk_103_0 rfl rfl eh1 ?_
  refine V_iload_n (pc := 5) C dX12_stuck_5 rfl ?_
  refine V_iconst (pc := 6) C dX12_stuck_6 (v := 0) (by decide) ?_
  refine V_sipush (pc := 7) C dX12_stuck_7 (v := 255) (by decide) ?_
  obtain ⟨r2, h3, eh3, hyp⟩ := bI_n hyp
  refine V_statI (pc := 10) C dX12_stuck_10 lm_X12_183 ms_X12_within (M_X12_within _ eh3) rfl pd_X12_within (by decide) (by decide) (by decide) (As := [.int a1, .int (0 : Int32), .int (255 : Int32)]) (rest := []) rfl (Nat.le_of_ble_eq_true rfl) ?_
  refine V_if_ne (pc := 13) C dX12_stuck_13 (tgt := 18) (by decide) (fun q4 => ?_) (fun q4 => ?_)
  · replace hyp := (if_neg q4).symm.trans hyp
    refine V_aload_n (pc := 18) C dX12_stuck_18 rfl ?_
    obtain ⟨h6, eh6, hyp⟩ := bV_n hyp
    refine V_callV (pc := 19) C dX12_stuck_19 lm_X12_393 mk_X12_goesThrough ok_103 rfl (M_X12_goesThrough _ eh6) rfl pd_X12_goesThrough (by decide) (by decide) (by decide) (As := []) (rest := []) rfl (Nat.le_of_ble_eq_true rfl) ?_
    refine V_aload_n (pc := 22) C dX12_stuck_22 rfl ?_
    refine V_iconst (pc := 23) C dX12_stuck_23 (v := 1) (by decide) ?_
    obtain ⟨h7, eh7, hyp⟩ := hb_n hyp
    refine V_putI (pc := 24) C dX12_stuck_24 lf_X12_197 fk_103_46 rfl rfl eh7 ?_
    refine V_aload_n (pc := 27) C dX12_stuck_27 rfl ?_
    refine V_getR (pc := 28) C dX12_stuck_28 lf_X12_99 fk_103_48 ?_
    refine V_iconst (pc := 31) C dX12_stuck_31 (v := 0) (by decide) ?_
    refine V_iconst (pc := 32) C dX12_stuck_32 (v := 0) (by decide) ?_
    obtain ⟨g8, hyp⟩ := gd_n hyp
    obtain ⟨h9, eh9, hyp⟩ := hb_n hyp
    refine V_iast (pc := 33) C dX12_stuck_33 ak_132 g8 eh9 ?_
    refine V_iconst (pc := 34) C dX12_stuck_34 (v := 0) (by decide) ?_
    refine V_istore_n (pc := 35) C dX12_stuck_35 (by decide) rfl ?_
    refine V_weak (lv' := [some (.ref 103), some (.int a1), some (.int (0 : Int32))]) (lvle_s (lvle_s (lvle_s lvle_0))) ?_
    exact (T_X12_stuck_b36 C) N a1 (0 : Int32) h9 hyp
  · replace hyp := (if_pos q4).symm.trans hyp
    refine V_iconst (pc := 16) C dX12_stuck_16 (v := -1) (by decide) ?_
    cases hyp
    exact V_iret C dX12_stuck_17
theorem dX12_narrows_0 : decode cX12_narrows 0 = .ok (.aload_n 0, 1) := by decide +kernel
theorem dX12_narrows_1 : decode cX12_narrows 1 = .ok (.dup, 1) := by decide +kernel
theorem dX12_narrows_2 : decode cX12_narrows 2 = .ok (.getfield 408, 3) := by decide +kernel
theorem dX12_narrows_5 : decode cX12_narrows 5 = .ok (.iconst 1, 1) := by decide +kernel
theorem dX12_narrows_6 : decode cX12_narrows 6 = .ok (.iadd, 1) := by decide +kernel
theorem dX12_narrows_7 : decode cX12_narrows 7 = .ok (.putfield 408, 3) := by decide +kernel
theorem dX12_narrows_10 : decode cX12_narrows 10 = .ok (.sipush 3072, 3) := by decide +kernel
theorem dX12_narrows_13 : decode cX12_narrows 13 = .ok (.iload_n 1, 1) := by decide +kernel
theorem dX12_narrows_14 : decode cX12_narrows 14 = .ok (.iconst 1, 1) := by decide +kernel
theorem dX12_narrows_15 : decode cX12_narrows 15 = .ok (.iadd, 1) := by decide +kernel
theorem dX12_narrows_16 : decode cX12_narrows 16 = .ok (.imul, 1) := by decide +kernel
theorem dX12_narrows_17 : decode cX12_narrows 17 = .ok (.istore 4, 2) := by decide +kernel
theorem dX12_narrows_19 : decode cX12_narrows 19 = .ok (.iconst 0, 1) := by decide +kernel
theorem dX12_narrows_20 : decode cX12_narrows 20 = .ok (.istore 5, 2) := by decide +kernel
theorem dX12_narrows_22 : decode cX12_narrows 22 = .ok (.iconst 0, 1) := by decide +kernel
theorem dX12_narrows_23 : decode cX12_narrows 23 = .ok (.istore 6, 2) := by decide +kernel
theorem dX12_narrows_25 : decode cX12_narrows 25 = .ok (.iload 6, 2) := by decide +kernel
theorem dX12_narrows_27 : decode cX12_narrows 27 = .ok (.aload_n 0, 1) := by decide +kernel
theorem dX12_narrows_28 : decode cX12_narrows 28 = .ok (.getfield 99, 3) := by decide +kernel
theorem dX12_narrows_31 : decode cX12_narrows 31 = .ok (.iload_n 1, 1) := by decide +kernel
theorem dX12_narrows_32 : decode cX12_narrows 32 = .ok (.iaload, 1) := by decide +kernel
theorem dX12_narrows_33 : decode cX12_narrows 33 = .ok (.if_icmp .ge 87, 3) := by decide +kernel
theorem dX12_narrows_36 : decode cX12_narrows 36 = .ok (.aload_n 0, 1) := by decide +kernel
theorem dX12_narrows_37 : decode cX12_narrows 37 = .ok (.getfield 90, 3) := by decide +kernel
theorem dX12_narrows_40 : decode cX12_narrows 40 = .ok (.bipush 7, 2) := by decide +kernel
theorem dX12_narrows_42 : decode cX12_narrows 42 = .ok (.aload_n 0, 1) := by decide +kernel
theorem dX12_narrows_43 : decode cX12_narrows 43 = .ok (.getfield 96, 3) := by decide +kernel
theorem dX12_narrows_46 : decode cX12_narrows 46 = .ok (.sipush 3072, 3) := by decide +kernel
theorem dX12_narrows_49 : decode cX12_narrows 49 = .ok (.iload_n 1, 1) := by decide +kernel
theorem dX12_narrows_50 : decode cX12_narrows 50 = .ok (.imul, 1) := by decide +kernel
theorem dX12_narrows_51 : decode cX12_narrows 51 = .ok (.iload 6, 2) := by decide +kernel
theorem dX12_narrows_53 : decode cX12_narrows 53 = .ok (.iadd, 1) := by decide +kernel
theorem dX12_narrows_54 : decode cX12_narrows 54 = .ok (.iaload, 1) := by decide +kernel
theorem dX12_narrows_55 : decode cX12_narrows 55 = .ok (.imul, 1) := by decide +kernel
theorem dX12_narrows_56 : decode cX12_narrows 56 = .ok (.iconst 1, 1) := by decide +kernel
theorem dX12_narrows_57 : decode cX12_narrows 57 = .ok (.iadd, 1) := by decide +kernel
theorem dX12_narrows_58 : decode cX12_narrows 58 = .ok (.iload_n 2, 1) := by decide +kernel
theorem dX12_narrows_59 : decode cX12_narrows 59 = .ok (.iadd, 1) := by decide +kernel
theorem dX12_narrows_60 : decode cX12_narrows 60 = .ok (.iaload, 1) := by decide +kernel
theorem dX12_narrows_61 : decode cX12_narrows 61 = .ok (.istore 7, 2) := by decide +kernel
theorem dX12_narrows_63 : decode cX12_narrows 63 = .ok (.aload_n 0, 1) := by decide +kernel
theorem dX12_narrows_64 : decode cX12_narrows 64 = .ok (.getfield 93, 3) := by decide +kernel
theorem dX12_narrows_67 : decode cX12_narrows 67 = .ok (.iload 7, 2) := by decide +kernel
theorem dX12_narrows_69 : decode cX12_narrows 69 = .ok (.iaload, 1) := by decide +kernel
theorem dX12_narrows_70 : decode cX12_narrows 70 = .ok (.iload_n 3, 1) := by decide +kernel
theorem dX12_narrows_71 : decode cX12_narrows 71 = .ok (.if_icmp .ne 43, 3) := by decide +kernel
theorem dX12_narrows_74 : decode cX12_narrows 74 = .ok (.aload_n 0, 1) := by decide +kernel
theorem dX12_narrows_75 : decode cX12_narrows 75 = .ok (.getfield 102, 3) := by decide +kernel
theorem dX12_narrows_78 : decode cX12_narrows 78 = .ok (.iload 7, 2) := by decide +kernel
theorem dX12_narrows_80 : decode cX12_narrows 80 = .ok (.iaload, 1) := by decide +kernel
theorem dX12_narrows_81 : decode cX12_narrows 81 = .ok (.aload_n 0, 1) := by decide +kernel
theorem dX12_narrows_82 : decode cX12_narrows 82 = .ok (.getfield 408, 3) := by decide +kernel
theorem dX12_narrows_85 : decode cX12_narrows 85 = .ok (.if_icmp .eq 29, 3) := by decide +kernel
theorem dX12_narrows_88 : decode cX12_narrows 88 = .ok (.aload_n 0, 1) := by decide +kernel
theorem dX12_narrows_89 : decode cX12_narrows 89 = .ok (.getfield 102, 3) := by decide +kernel
theorem dX12_narrows_92 : decode cX12_narrows 92 = .ok (.iload 7, 2) := by decide +kernel
theorem dX12_narrows_94 : decode cX12_narrows 94 = .ok (.aload_n 0, 1) := by decide +kernel
theorem dX12_narrows_95 : decode cX12_narrows 95 = .ok (.getfield 408, 3) := by decide +kernel
theorem dX12_narrows_98 : decode cX12_narrows 98 = .ok (.iastore, 1) := by decide +kernel
theorem dX12_narrows_99 : decode cX12_narrows 99 = .ok (.aload_n 0, 1) := by decide +kernel
theorem dX12_narrows_100 : decode cX12_narrows 100 = .ok (.getfield 96, 3) := by decide +kernel
theorem dX12_narrows_103 : decode cX12_narrows 103 = .ok (.iload 4, 2) := by decide +kernel
theorem dX12_narrows_105 : decode cX12_narrows 105 = .ok (.iload 5, 2) := by decide +kernel
theorem dX12_narrows_107 : decode cX12_narrows 107 = .ok (.iadd, 1) := by decide +kernel
theorem dX12_narrows_108 : decode cX12_narrows 108 = .ok (.iload 7, 2) := by decide +kernel
theorem dX12_narrows_110 : decode cX12_narrows 110 = .ok (.iastore, 1) := by decide +kernel
theorem dX12_narrows_111 : decode cX12_narrows 111 = .ok (.iinc 5 1, 3) := by decide +kernel
theorem dX12_narrows_114 : decode cX12_narrows 114 = .ok (.iinc 6 1, 3) := by decide +kernel
theorem dX12_narrows_117 : decode cX12_narrows 117 = .ok (.goto (-92), 3) := by decide +kernel
theorem dX12_narrows_120 : decode cX12_narrows 120 = .ok (.aload_n 0, 1) := by decide +kernel
theorem dX12_narrows_121 : decode cX12_narrows 121 = .ok (.getfield 99, 3) := by decide +kernel
theorem dX12_narrows_124 : decode cX12_narrows 124 = .ok (.iload_n 1, 1) := by decide +kernel
theorem dX12_narrows_125 : decode cX12_narrows 125 = .ok (.iconst 1, 1) := by decide +kernel
theorem dX12_narrows_126 : decode cX12_narrows 126 = .ok (.iadd, 1) := by decide +kernel
theorem dX12_narrows_127 : decode cX12_narrows 127 = .ok (.iload 5, 2) := by decide +kernel
theorem dX12_narrows_129 : decode cX12_narrows 129 = .ok (.iastore, 1) := by decide +kernel
theorem dX12_narrows_130 : decode cX12_narrows 130 = .ok (.return_, 1) := by decide +kernel
def F_X12_narrows_b114 (N : Nat) (rc25 : Int32 → Int32 → Int32 → Int32 → Int32 → Int32 → PH → Option PH) (x1 : Int32) (x2 : Int32) (x3 : Int32) (x4 : Int32) (x5 : Int32) (x6 : Int32) (h : PH) : Option PH :=
  ib (x6 + (1 : Int32)) fun v1 =>
  rc25 x1 x2 x3 x4 x5 v1 h
set_option maxRecDepth 20000 in
set_option maxHeartbeats 4000000 in
theorem T_X12_narrows_b114 {X : CT} (C : CX X 154 cX12_narrows 8 RX12 none 0 0) {h0 : PH} {N : Nat} {rc25 : Int32 → Int32 → Int32 → Int32 → Int32 → Int32 → PH → Option PH} (hr25 : ∀ (x1 : Int32) (x2 : Int32) (x3 : Int32) (x4 : Int32) (x5 : Int32) (x6 : Int32) (h : PH), rc25 x1 x2 x3 x4 x5 x6 h = some h0 → V X (QV X h0) h 25 [some (.ref 103), some (.int x1), some (.int x2), some (.int x3), some (.int x4), some (.int x5), some (.int x6), none] []) : ∀ (x1 : Int32) (x2 : Int32) (x3 : Int32) (x4 : Int32) (x5 : Int32) (x6 : Int32) (h : PH), F_X12_narrows_b114 N rc25 x1 x2 x3 x4 x5 x6 h = some h0 → V X (QV X h0) h 114 [some (.ref 103), some (.int x1), some (.int x2), some (.int x3), some (.int x4), some (.int x5), some (.int x6), none] [] := by
  intro x1 x2 x3 x4 x5 x6 h hyp
  unfold F_X12_narrows_b114 at hyp
  obtain ⟨v1, ev1, hyp⟩ := ib_n hyp
  refine V_iinc (pc := 114) C dX12_narrows_114 (v := v1) rfl (by rw [ev1]; rfl) (by decide) rfl ?_
  refine V_goto (pc := 117) C dX12_narrows_117 (tgt := 25) (by decide) ?_
  refine V_weak (lv' := [some (.ref 103), some (.int x1), some (.int x2), some (.int x3), some (.int x4), some (.int x5), some (.int v1), none]) (lvle_s (lvle_s (lvle_s (lvle_s (lvle_s (lvle_s (lvle_s (lvle_n lvle_0)))))))) ?_
  exact hr25 x1 x2 x3 x4 x5 v1 h hyp
def F_X12_narrows_b120 (N : Nat) (x1 : Int32) (x5 : Int32) (h : PH) : Option PH :=
  if inb (x1 + (1 : Int32)) 4 = true then
  hb (hs h 132 (x1 + (1 : Int32)).toNatClampNeg x5) fun h2 =>
  some h2
  else none
set_option maxRecDepth 20000 in
set_option maxHeartbeats 4000000 in
theorem T_X12_narrows_b120 {X : CT} (C : CX X 154 cX12_narrows 8 RX12 none 0 0) {h0 : PH} {N : Nat} : ∀ (x1 : Int32) (x5 : Int32) (h : PH), F_X12_narrows_b120 N x1 x5 h = some h0 → V X (QV X h0) h 120 [some (.ref 103), some (.int x1), none, none, none, some (.int x5), none, none] [] := by
  intro x1 x5 h hyp
  unfold F_X12_narrows_b120 at hyp
  refine V_aload_n (pc := 120) C dX12_narrows_120 rfl ?_
  refine V_getR (pc := 121) C dX12_narrows_121 lf_X12_99 fk_103_48 ?_
  refine V_iload_n (pc := 124) C dX12_narrows_124 rfl ?_
  refine V_iconst (pc := 125) C dX12_narrows_125 (v := 1) (by decide) ?_
  refine V_iadd (pc := 126) C dX12_narrows_126 ?_
  refine V_iload (pc := 127) C dX12_narrows_127 rfl ?_
  obtain ⟨g1, hyp⟩ := gd_n hyp
  obtain ⟨h2, eh2, hyp⟩ := hb_n hyp
  refine V_iast (pc := 129) C dX12_narrows_129 ak_132 g1 eh2 ?_
  cases hyp
  exact V_vret C dX12_narrows_130
def F_X12_narrows_b25 (N : Nat) : Nat → Int32 → Int32 → Int32 → Int32 → Int32 → Int32 → PH → Option PH
  | 0, _, _, _, _, _, _, _ => none
  | n + 1, x1, x2, x3, x4, x5, x6, h =>
    if inb x1 4 = true then
    if (h.1 132 x1.toNatClampNeg) ≤ x6 then
      F_X12_narrows_b120 N x1 x5 h
    else
      if inb (((3072 : Int32) * x1) + x6) 12288 = true then
      if inb ((((7 : Int32) * (h.1 131 (((3072 : Int32) * x1) + x6).toNatClampNeg)) + (1 : Int32)) + x2) 21504 = true then
      ib (h.1 129 ((((7 : Int32) * (h.1 131 (((3072 : Int32) * x1) + x6).toNatClampNeg)) + (1 : Int32)) + x2).toNatClampNeg) fun v5 =>
      if inb v5 3072 = true then
      if (h.1 130 v5.toNatClampNeg) = x3 then
        if inb v5 3072 = true then
        if (h.1 133 v5.toNatClampNeg) = (h.1 103 50) then
          F_X12_narrows_b114 N (F_X12_narrows_b25 N n) x1 x2 x3 x4 x5 x6 h
        else
          if inb v5 3072 = true then
          hb (hs h 133 v5.toNatClampNeg (h.1 103 50)) fun h11 =>
          if inb (x4 + x5) 12288 = true then
          hb (hs h11 131 (x4 + x5).toNatClampNeg v5) fun h13 =>
          ib (x5 + (1 : Int32)) fun v14 =>
          F_X12_narrows_b114 N (F_X12_narrows_b25 N n) x1 x2 x3 x4 v14 x6 h13
          else none
          else none
        else none
      else
        F_X12_narrows_b114 N (F_X12_narrows_b25 N n) x1 x2 x3 x4 x5 x6 h
      else none
      else none
      else none
    else none
set_option maxRecDepth 20000 in
set_option maxHeartbeats 4000000 in
theorem T_X12_narrows_b25 {X : CT} (C : CX X 154 cX12_narrows 8 RX12 none 0 0) {h0 : PH} {N : Nat} : ∀ (n : Nat) (x1 : Int32) (x2 : Int32) (x3 : Int32) (x4 : Int32) (x5 : Int32) (x6 : Int32) (h : PH), F_X12_narrows_b25 N n x1 x2 x3 x4 x5 x6 h = some h0 → V X (QV X h0) h 25 [some (.ref 103), some (.int x1), some (.int x2), some (.int x3), some (.int x4), some (.int x5), some (.int x6), none] [] := by
  intro n
  induction n with
  | zero =>
    intro x1 x2 x3 x4 x5 x6 h hyp
    cases hyp
  | succ n ih =>
    intro x1 x2 x3 x4 x5 x6 h hyp
    unfold F_X12_narrows_b25 at hyp
    refine V_iload (pc := 25) C dX12_narrows_25 rfl ?_
    refine V_aload_n (pc := 27) C dX12_narrows_27 rfl ?_
    refine V_getR (pc := 28) C dX12_narrows_28 lf_X12_99 fk_103_48 ?_
    refine V_iload_n (pc := 31) C dX12_narrows_31 rfl ?_
    obtain ⟨g1, hyp⟩ := gd_n hyp
    refine V_iald (pc := 32) C dX12_narrows_32 ak_132 g1 ?_
    refine V_icmp_ge (pc := 33) C dX12_narrows_33 (tgt := 120) (by decide) (fun q2 => ?_) (fun q2 => ?_)
    · replace hyp := (if_pos q2).symm.trans hyp
      refine V_weak (lv' := [some (.ref 103), some (.int x1), none, none, none, some (.int x5), none, none]) (lvle_s (lvle_s (lvle_n (lvle_n (lvle_n (lvle_s (lvle_n (lvle_n lvle_0)))))))) ?_
      exact (T_X12_narrows_b120 C) x1 x5 h hyp
    · replace hyp := (if_neg q2).symm.trans hyp
      refine V_aload_n (pc := 36) C dX12_narrows_36 rfl ?_
      refine V_getR (pc := 37) C dX12_narrows_37 lf_X12_90 fk_103_44 ?_
      refine V_bipush (pc := 40) C dX12_narrows_40 (v := 7) (by decide) ?_
      refine V_aload_n (pc := 42) C dX12_narrows_42 rfl ?_
      refine V_getR (pc := 43) C dX12_narrows_43 lf_X12_96 fk_103_47 ?_
      refine V_sipush (pc := 46) C dX12_narrows_46 (v := 3072) (by decide) ?_
      refine V_iload_n (pc := 49) C dX12_narrows_49 rfl ?_
      refine V_imul (pc := 50) C dX12_narrows_50 ?_
      refine V_iload (pc := 51) C dX12_narrows_51 rfl ?_
      refine V_iadd (pc := 53) C dX12_narrows_53 ?_
      obtain ⟨g3, hyp⟩ := gd_n hyp
      refine V_iald (pc := 54) C dX12_narrows_54 ak_131 g3 ?_
      refine V_imul (pc := 55) C dX12_narrows_55 ?_
      refine V_iconst (pc := 56) C dX12_narrows_56 (v := 1) (by decide) ?_
      refine V_iadd (pc := 57) C dX12_narrows_57 ?_
      refine V_iload_n (pc := 58) C dX12_narrows_58 rfl ?_
      refine V_iadd (pc := 59) C dX12_narrows_59 ?_
      obtain ⟨g4, hyp⟩ := gd_n hyp
      refine V_iald (pc := 60) C dX12_narrows_60 ak_129 g4 ?_
      obtain ⟨v5, ev5, hyp⟩ := ib_n hyp
      refine V_topI ev5 ?_
      refine V_istore (pc := 61) C dX12_narrows_61 (by decide) rfl ?_
      refine V_aload_n (pc := 63) C dX12_narrows_63 rfl ?_
      refine V_getR (pc := 64) C dX12_narrows_64 lf_X12_93 fk_103_45 ?_
      refine V_iload (pc := 67) C dX12_narrows_67 rfl ?_
      obtain ⟨g6, hyp⟩ := gd_n hyp
      refine V_iald (pc := 69) C dX12_narrows_69 ak_130 g6 ?_
      refine V_iload_n (pc := 70) C dX12_narrows_70 rfl ?_
      refine V_icmp_ne (pc := 71) C dX12_narrows_71 (tgt := 114) (by decide) (fun q7 => ?_) (fun q7 => ?_)
      · replace hyp := (if_neg q7).symm.trans hyp
        refine V_weak (lv' := [some (.ref 103), some (.int x1), some (.int x2), some (.int x3), some (.int x4), some (.int x5), some (.int x6), none]) (lvle_s (lvle_s (lvle_s (lvle_s (lvle_s (lvle_s (lvle_s (lvle_n lvle_0)))))))) ?_
        exact (T_X12_narrows_b114 C ih) x1 x2 x3 x4 x5 x6 h hyp
      · replace hyp := (if_pos q7).symm.trans hyp
        refine V_aload_n (pc := 74) C dX12_narrows_74 rfl ?_
        refine V_getR (pc := 75) C dX12_narrows_75 lf_X12_102 fk_103_49 ?_
        refine V_iload (pc := 78) C dX12_narrows_78 rfl ?_
        obtain ⟨g8, hyp⟩ := gd_n hyp
        refine V_iald (pc := 80) C dX12_narrows_80 ak_133 g8 ?_
        refine V_aload_n (pc := 81) C dX12_narrows_81 rfl ?_
        refine V_getI (pc := 82) C dX12_narrows_82 lf_X12_408 fk_103_50 ?_
        refine V_icmp_eq (pc := 85) C dX12_narrows_85 (tgt := 114) (by decide) (fun q9 => ?_) (fun q9 => ?_)
        · replace hyp := (if_pos q9).symm.trans hyp
          refine V_weak (lv' := [some (.ref 103), some (.int x1), some (.int x2), some (.int x3), some (.int x4), some (.int x5), some (.int x6), none]) (lvle_s (lvle_s (lvle_s (lvle_s (lvle_s (lvle_s (lvle_s (lvle_n lvle_0)))))))) ?_
          exact (T_X12_narrows_b114 C ih) x1 x2 x3 x4 x5 x6 h hyp
        · replace hyp := (if_neg q9).symm.trans hyp
          refine V_aload_n (pc := 88) C dX12_narrows_88 rfl ?_
          refine V_getR (pc := 89) C dX12_narrows_89 lf_X12_102 fk_103_49 ?_
          refine V_iload (pc := 92) C dX12_narrows_92 rfl ?_
          refine V_aload_n (pc := 94) C dX12_narrows_94 rfl ?_
          refine V_getI (pc := 95) C dX12_narrows_95 lf_X12_408 fk_103_50 ?_
          obtain ⟨g10, hyp⟩ := gd_n hyp
          obtain ⟨h11, eh11, hyp⟩ := hb_n hyp
          refine V_iast (pc := 98) C dX12_narrows_98 ak_133 g10 eh11 ?_
          refine V_aload_n (pc := 99) C dX12_narrows_99 rfl ?_
          refine V_getR (pc := 100) C dX12_narrows_100 lf_X12_96 fk_103_47 ?_
          refine V_iload (pc := 103) C dX12_narrows_103 rfl ?_
          refine V_iload (pc := 105) C dX12_narrows_105 rfl ?_
          refine V_iadd (pc := 107) C dX12_narrows_107 ?_
          refine V_iload (pc := 108) C dX12_narrows_108 rfl ?_
          obtain ⟨g12, hyp⟩ := gd_n hyp
          obtain ⟨h13, eh13, hyp⟩ := hb_n hyp
          refine V_iast (pc := 110) C dX12_narrows_110 ak_131 g12 eh13 ?_
          obtain ⟨v14, ev14, hyp⟩ := ib_n hyp
          refine V_iinc (pc := 111) C dX12_narrows_111 (v := v14) rfl (by rw [ev14]; rfl) (by decide) rfl ?_
          refine V_weak (lv' := [some (.ref 103), some (.int x1), some (.int x2), some (.int x3), some (.int x4), some (.int v14), some (.int x6), none]) (lvle_s (lvle_s (lvle_s (lvle_s (lvle_s (lvle_s (lvle_s (lvle_n lvle_0)))))))) ?_
          exact (T_X12_narrows_b114 C ih) x1 x2 x3 x4 v14 x6 h13 hyp
def F_X12_narrows (N : Nat) (a1 : Int32) (a2 : Int32) (a3 : Int32) (h : PH) : Option PH :=
  hb (hs h 103 50 ((h.1 103 50) + (1 : Int32))) fun h1 =>
  ib ((3072 : Int32) * (a1 + (1 : Int32))) fun v2 =>
  F_X12_narrows_b25 N N a1 a2 a3 v2 (0 : Int32) (0 : Int32) h1
set_option maxRecDepth 20000 in
set_option maxHeartbeats 4000000 in
theorem M_X12_narrows (E : EV) {N : Nat} {a1 : Int32} {a2 : Int32} {a3 : Int32} {h h2 : PH} (hyp : F_X12_narrows N a1 a2 a3 h = some h2) : MV E 154 yX12_narrows cX12_narrows 8 none 0 0 [.ref 103, .int a1, .int a2, .int a3] h h2 := by
  refine MV.of 4 (by decide) rfl (fun X e1 C => ?_)
  subst e1
  replace C : CX X 154 cX12_narrows 8 RX12 none 0 0 := C
  show V X _ h 0 [some (.ref 103), some (.int a1), some (.int a2), some (.int a3), none, none, none, none] []
  unfold F_X12_narrows at hyp
  refine V_aload_n (pc := 0) C dX12_narrows_0 rfl ?_
  refine V_dup (pc := 1) C dX12_narrows_1 rfl ?_
  refine V_getI (pc := 2) C dX12_narrows_2 lf_X12_408 fk_103_50 ?_
  refine V_iconst (pc := 5) C dX12_narrows_5 (v := 1) (by decide) ?_
  refine V_iadd (pc := 6) C dX12_narrows_6 ?_
  obtain ⟨h1, eh1, hyp⟩ := hb_n hyp
  refine V_putI (pc := 7) C dX12_narrows_7 lf_X12_408 fk_103_50 rfl rfl eh1 ?_
  refine V_sipush (pc := 10) C dX12_narrows_10 (v := 3072) (by decide) ?_
  refine V_iload_n (pc := 13) C dX12_narrows_13 rfl ?_
  refine V_iconst (pc := 14) C dX12_narrows_14 (v := 1) (by decide) ?_
  refine V_iadd (pc := 15) C dX12_narrows_15 ?_
  refine V_imul (pc := 16) C dX12_narrows_16 ?_
  obtain ⟨v2, ev2, hyp⟩ := ib_n hyp
  refine V_topI ev2 ?_
  refine V_istore (pc := 17) C dX12_narrows_17 (by decide) rfl ?_
  refine V_iconst (pc := 19) C dX12_narrows_19 (v := 0) (by decide) ?_
  refine V_istore (pc := 20) C dX12_narrows_20 (by decide) rfl ?_
  refine V_iconst (pc := 22) C dX12_narrows_22 (v := 0) (by decide) ?_
  refine V_istore (pc := 23) C dX12_narrows_23 (by decide) rfl ?_
  refine V_weak (lv' := [some (.ref 103), some (.int a1), some (.int a2), some (.int a3), some (.int v2), some (.int (0 : Int32)), some (.int (0 : Int32)), none]) (lvle_s (lvle_s (lvle_s (lvle_s (lvle_s (lvle_s (lvle_s (lvle_n lvle_0)))))))) ?_
  exact (T_X12_narrows_b25 C) N a1 a2 a3 v2 (0 : Int32) (0 : Int32) h1 hyp
theorem dX12_tried_0 : decode cX12_tried 0 = .ok (.aload_n 0, 1) := by decide +kernel
theorem dX12_tried_1 : decode cX12_tried 1 = .ok (.iconst 0, 1) := by decide +kernel
theorem dX12_tried_2 : decode cX12_tried 2 = .ok (.putfield 180, 3) := by decide +kernel
theorem dX12_tried_5 : decode cX12_tried 5 = .ok (.aload_n 0, 1) := by decide +kernel
theorem dX12_tried_6 : decode cX12_tried 6 = .ok (.getfield 197, 3) := by decide +kernel
theorem dX12_tried_9 : decode cX12_tried 9 = .ok (.ifCond .eq 27, 3) := by decide +kernel
theorem dX12_tried_12 : decode cX12_tried 12 = .ok (.iload_n 1, 1) := by decide +kernel
theorem dX12_tried_13 : decode cX12_tried 13 = .ok (.iconst (-1), 1) := by decide +kernel
theorem dX12_tried_14 : decode cX12_tried 14 = .ok (.if_icmp .eq 11, 3) := by decide +kernel
theorem dX12_tried_17 : decode cX12_tried 17 = .ok (.aload_n 0, 1) := by decide +kernel
theorem dX12_tried_18 : decode cX12_tried 18 = .ok (.iload_n 1, 1) := by decide +kernel
theorem dX12_tried_19 : decode cX12_tried 19 = .ok (.invokevirtual 376, 3) := by decide +kernel
theorem dX12_tried_22 : decode cX12_tried 22 = .ok (.ifCond .eq 14, 3) := by decide +kernel
theorem dX12_tried_25 : decode cX12_tried 25 = .ok (.iload_n 2, 1) := by decide +kernel
theorem dX12_tried_26 : decode cX12_tried 26 = .ok (.iconst 0, 1) := by decide +kernel
theorem dX12_tried_27 : decode cX12_tried 27 = .ok (.sipush 255, 3) := by decide +kernel
theorem dX12_tried_30 : decode cX12_tried 30 = .ok (.invokestatic 183, 3) := by decide +kernel
theorem dX12_tried_33 : decode cX12_tried 33 = .ok (.ifCond .ne 5, 3) := by decide +kernel
theorem dX12_tried_36 : decode cX12_tried 36 = .ok (.iconst (-1), 1) := by decide +kernel
theorem dX12_tried_37 : decode cX12_tried 37 = .ok (.ireturn, 1) := by decide +kernel
theorem dX12_tried_38 : decode cX12_tried 38 = .ok (.aload_n 0, 1) := by decide +kernel
theorem dX12_tried_39 : decode cX12_tried 39 = .ok (.invokevirtual 393, 3) := by decide +kernel
theorem dX12_tried_42 : decode cX12_tried 42 = .ok (.aload_n 0, 1) := by decide +kernel
theorem dX12_tried_43 : decode cX12_tried 43 = .ok (.iconst 0, 1) := by decide +kernel
theorem dX12_tried_44 : decode cX12_tried 44 = .ok (.iload_n 1, 1) := by decide +kernel
theorem dX12_tried_45 : decode cX12_tried 45 = .ok (.iload_n 2, 1) := by decide +kernel
theorem dX12_tried_46 : decode cX12_tried 46 = .ok (.invokevirtual 411, 3) := by decide +kernel
theorem dX12_tried_49 : decode cX12_tried 49 = .ok (.iconst 0, 1) := by decide +kernel
theorem dX12_tried_50 : decode cX12_tried 50 = .ok (.istore_n 3, 1) := by decide +kernel
theorem dX12_tried_51 : decode cX12_tried 51 = .ok (.iload_n 3, 1) := by decide +kernel
theorem dX12_tried_52 : decode cX12_tried 52 = .ok (.aload_n 0, 1) := by decide +kernel
theorem dX12_tried_53 : decode cX12_tried 53 = .ok (.getfield 99, 3) := by decide +kernel
theorem dX12_tried_56 : decode cX12_tried 56 = .ok (.iconst 1, 1) := by decide +kernel
theorem dX12_tried_57 : decode cX12_tried 57 = .ok (.iaload, 1) := by decide +kernel
theorem dX12_tried_58 : decode cX12_tried 58 = .ok (.if_icmp .ge 25, 3) := by decide +kernel
theorem dX12_tried_61 : decode cX12_tried 61 = .ok (.aload_n 0, 1) := by decide +kernel
theorem dX12_tried_62 : decode cX12_tried 62 = .ok (.getfield 96, 3) := by decide +kernel
theorem dX12_tried_65 : decode cX12_tried 65 = .ok (.iload_n 3, 1) := by decide +kernel
theorem dX12_tried_66 : decode cX12_tried 66 = .ok (.aload_n 0, 1) := by decide +kernel
theorem dX12_tried_67 : decode cX12_tried 67 = .ok (.getfield 96, 3) := by decide +kernel
theorem dX12_tried_70 : decode cX12_tried 70 = .ok (.sipush 3072, 3) := by decide +kernel
theorem dX12_tried_73 : decode cX12_tried 73 = .ok (.iload_n 3, 1) := by decide +kernel
theorem dX12_tried_74 : decode cX12_tried 74 = .ok (.iadd, 1) := by decide +kernel
theorem dX12_tried_75 : decode cX12_tried 75 = .ok (.iaload, 1) := by decide +kernel
theorem dX12_tried_76 : decode cX12_tried 76 = .ok (.iastore, 1) := by decide +kernel
theorem dX12_tried_77 : decode cX12_tried 77 = .ok (.iinc 3 1, 3) := by decide +kernel
theorem dX12_tried_80 : decode cX12_tried 80 = .ok (.goto (-29), 3) := by decide +kernel
theorem dX12_tried_83 : decode cX12_tried 83 = .ok (.aload_n 0, 1) := by decide +kernel
theorem dX12_tried_84 : decode cX12_tried 84 = .ok (.getfield 99, 3) := by decide +kernel
theorem dX12_tried_87 : decode cX12_tried 87 = .ok (.iconst 0, 1) := by decide +kernel
theorem dX12_tried_88 : decode cX12_tried 88 = .ok (.aload_n 0, 1) := by decide +kernel
theorem dX12_tried_89 : decode cX12_tried 89 = .ok (.getfield 99, 3) := by decide +kernel
theorem dX12_tried_92 : decode cX12_tried 92 = .ok (.iconst 1, 1) := by decide +kernel
theorem dX12_tried_93 : decode cX12_tried 93 = .ok (.iaload, 1) := by decide +kernel
theorem dX12_tried_94 : decode cX12_tried 94 = .ok (.iastore, 1) := by decide +kernel
theorem dX12_tried_95 : decode cX12_tried 95 = .ok (.aload_n 0, 1) := by decide +kernel
theorem dX12_tried_96 : decode cX12_tried 96 = .ok (.getfield 99, 3) := by decide +kernel
theorem dX12_tried_99 : decode cX12_tried 99 = .ok (.iconst 0, 1) := by decide +kernel
theorem dX12_tried_100 : decode cX12_tried 100 = .ok (.iaload, 1) := by decide +kernel
theorem dX12_tried_101 : decode cX12_tried 101 = .ok (.ireturn, 1) := by decide +kernel
def F_X12_tried_b83 (N : Nat) (h : PH) : Option (Int32 × PH) :=
  if inb (1 : Int32) 4 = true then
  if inb (0 : Int32) 4 = true then
  hb (hs h 132 (0 : Int32).toNatClampNeg (h.1 132 (1 : Int32).toNatClampNeg)) fun h3 =>
  some (h3.1 132 (0 : Int32).toNatClampNeg, h3)
  else none
  else none
set_option maxRecDepth 20000 in
set_option maxHeartbeats 4000000 in
theorem T_X12_tried_b83 {X : CT} (C : CX X 154 cX12_tried 4 RX12 (some .int) 7 160) {r0 : Int32} {h0 : PH} {N : Nat} : ∀ (h : PH), F_X12_tried_b83 N  h = some (r0, h0) → V X (QI X r0 h0) h 83 [some (.ref 103), none, none, none] [] := by
  intro  h hyp
  unfold F_X12_tried_b83 at hyp
  refine V_aload_n (pc := 83) C dX12_tried_83 rfl ?_
  refine V_getR (pc := 84) C dX12_tried_84 lf_X12_99 fk_103_48 ?_
  refine V_iconst (pc := 87) C dX12_tried_87 (v := 0) (by decide) ?_
  refine V_aload_n (pc := 88) C dX12_tried_88 rfl ?_
  refine V_getR (pc := 89) C dX12_tried_89 lf_X12_99 fk_103_48 ?_
  refine V_iconst (pc := 92) C dX12_tried_92 (v := 1) (by decide) ?_
  obtain ⟨g1, hyp⟩ := gd_n hyp
  refine V_iald (pc := 93) C dX12_tried_93 ak_132 g1 ?_
  obtain ⟨g2, hyp⟩ := gd_n hyp
  obtain ⟨h3, eh3, hyp⟩ := hb_n hyp
  refine V_iast (pc := 94) C dX12_tried_94 ak_132 g2 eh3 ?_
  refine V_aload_n (pc := 95) C dX12_tried_95 rfl ?_
  refine V_getR (pc := 96) C dX12_tried_96 lf_X12_99 fk_103_48 ?_
  refine V_iconst (pc := 99) C dX12_tried_99 (v := 0) (by decide) ?_
  refine V_iald (pc := 100) C dX12_tried_100 ak_132 g2 ?_
  cases hyp
  exact V_iret C dX12_tried_101
def F_X12_tried_b51 (N : Nat) : Nat → Int32 → PH → Option (Int32 × PH)
  | 0, _, _ => none
  | n + 1, x3, h =>
    if inb (1 : Int32) 4 = true then
    if (h.1 132 (1 : Int32).toNatClampNeg) ≤ x3 then
      F_X12_tried_b83 N  h
    else
      if inb ((3072 : Int32) + x3) 12288 = true then
      if inb x3 12288 = true then
      hb (hs h 131 x3.toNatClampNeg (h.1 131 ((3072 : Int32) + x3).toNatClampNeg)) fun h5 =>
      ib (x3 + (1 : Int32)) fun v6 =>
      F_X12_tried_b51 N n v6 h5
      else none
      else none
    else none
set_option maxRecDepth 20000 in
set_option maxHeartbeats 4000000 in
theorem T_X12_tried_b51 {X : CT} (C : CX X 154 cX12_tried 4 RX12 (some .int) 7 160) {r0 : Int32} {h0 : PH} {N : Nat} : ∀ (n : Nat) (x3 : Int32) (h : PH), F_X12_tried_b51 N n x3 h = some (r0, h0) → V X (QI X r0 h0) h 51 [some (.ref 103), none, none, some (.int x3)] [] := by
  intro n
  induction n with
  | zero =>
    intro x3 h hyp
    cases hyp
  | succ n ih =>
    intro x3 h hyp
    unfold F_X12_tried_b51 at hyp
    refine V_iload_n (pc := 51) C dX12_tried_51 rfl ?_
    refine V_aload_n (pc := 52) C dX12_tried_52 rfl ?_
    refine V_getR (pc := 53) C dX12_tried_53 lf_X12_99 fk_103_48 ?_
    refine V_iconst (pc := 56) C dX12_tried_56 (v := 1) (by decide) ?_
    obtain ⟨g1, hyp⟩ := gd_n hyp
    refine V_iald (pc := 57) C dX12_tried_57 ak_132 g1 ?_
    refine V_icmp_ge (pc := 58) C dX12_tried_58 (tgt := 83) (by decide) (fun q2 => ?_) (fun q2 => ?_)
    · replace hyp := (if_pos q2).symm.trans hyp
      refine V_weak (lv' := [some (.ref 103), none, none, none]) (lvle_s (lvle_n (lvle_n (lvle_n lvle_0)))) ?_
      exact (T_X12_tried_b83 C) h hyp
    · replace hyp := (if_neg q2).symm.trans hyp
      refine V_aload_n (pc := 61) C dX12_tried_61 rfl ?_
      refine V_getR (pc := 62) C dX12_tried_62 lf_X12_96 fk_103_47 ?_
      refine V_iload_n (pc := 65) C dX12_tried_65 rfl ?_
      refine V_aload_n (pc := 66) C dX12_tried_66 rfl ?_
      refine V_getR (pc := 67) C dX12_tried_67 lf_X12_96 fk_103_47 ?_
      refine V_sipush (pc := 70) C dX12_tried_70 (v := 3072) (by decide) ?_
      refine V_iload_n (pc := 73) C dX12_tried_73 rfl ?_
      refine V_iadd (pc := 74) C dX12_tried_74 ?_
      obtain ⟨g3, hyp⟩ := gd_n hyp
      refine V_iald (pc := 75) C dX12_tried_75 ak_131 g3 ?_
      obtain ⟨g4, hyp⟩ := gd_n hyp
      obtain ⟨h5, eh5, hyp⟩ := hb_n hyp
      refine V_iast (pc := 76) C dX12_tried_76 ak_131 g4 eh5 ?_
      obtain ⟨v6, ev6, hyp⟩ := ib_n hyp
      refine V_iinc (pc := 77) C dX12_tried_77 (v := v6) rfl (by rw [ev6]; rfl) (by decide) rfl ?_
      refine V_goto (pc := 80) C dX12_tried_80 (tgt := 51) (by decide) ?_
      refine V_weak (lv' := [some (.ref 103), none, none, some (.int v6)]) (lvle_s (lvle_n (lvle_n (lvle_s lvle_0)))) ?_
      exact ih v6 h5 hyp
def F_X12_tried_b25 (N : Nat) (x1 : Int32) (x2 : Int32) (h : PH) : Option (Int32 × PH) :=
  bI (F_X12_within x2 (0 : Int32) (255 : Int32) h) fun r1 h2 =>
  if r1 = 0 then
    some ((-1 : Int32), h2)
  else
    bV (F_X12_goesThrough N  h2) fun h5 =>
    bV (F_X12_narrows N (0 : Int32) x1 x2 h5) fun h7 =>
    F_X12_tried_b51 N N (0 : Int32) h7
set_option maxRecDepth 20000 in
set_option maxHeartbeats 4000000 in
theorem T_X12_tried_b25 {X : CT} (C : CX X 154 cX12_tried 4 RX12 (some .int) 7 160) {r0 : Int32} {h0 : PH} {N : Nat} : ∀ (x1 : Int32) (x2 : Int32) (h : PH), F_X12_tried_b25 N x1 x2 h = some (r0, h0) → V X (QI X r0 h0) h 25 [some (.ref 103), some (.int x1), some (.int x2), none] [] := by
  intro x1 x2 h hyp
  unfold F_X12_tried_b25 at hyp
  refine V_iload_n (pc := 25) C dX12_tried_25 rfl ?_
  refine V_iconst (pc := 26) C dX12_tried_26 (v := 0) (by decide) ?_
  refine V_sipush (pc := 27) C dX12_tried_27 (v := 255) (by decide) ?_
  obtain ⟨r1, h2, eh2, hyp⟩ := bI_n hyp
  refine V_statI (pc := 30) C dX12_tried_30 lm_X12_183 ms_X12_within (M_X12_within _ eh2) rfl pd_X12_within (by decide) (by decide) (by decide) (As := [.int x2, .int (0 : Int32), .int (255 : Int32)]) (rest := []) rfl (Nat.le_of_ble_eq_true rfl) ?_
  refine V_if_ne (pc := 33) C dX12_tried_33 (tgt := 38) (by decide) (fun q3 => ?_) (fun q3 => ?_)
  · replace hyp := (if_neg q3).symm.trans hyp
    refine V_aload_n (pc := 38) C dX12_tried_38 rfl ?_
    obtain ⟨h5, eh5, hyp⟩ := bV_n hyp
    refine V_callV (pc := 39) C dX12_tried_39 lm_X12_393 mk_X12_goesThrough ok_103 rfl (M_X12_goesThrough _ eh5) rfl pd_X12_goesThrough (by decide) (by decide) (by decide) (As := []) (rest := []) rfl (Nat.le_of_ble_eq_true rfl) ?_
    refine V_aload_n (pc := 42) C dX12_tried_42 rfl ?_
    refine V_iconst (pc := 43) C dX12_tried_43 (v := 0) (by decide) ?_
    refine V_iload_n (pc := 44) C dX12_tried_44 rfl ?_
    refine V_iload_n (pc := 45) C dX12_tried_45 rfl ?_
    obtain ⟨h7, eh7, hyp⟩ := bV_n hyp
    refine V_callV (pc := 46) C dX12_tried_46 lm_X12_411 mk_X12_narrows ok_103 rfl (M_X12_narrows _ eh7) rfl pd_X12_narrows (by decide) (by decide) (by decide) (As := [.int (0 : Int32), .int x1, .int x2]) (rest := []) rfl (Nat.le_of_ble_eq_true rfl) ?_
    refine V_iconst (pc := 49) C dX12_tried_49 (v := 0) (by decide) ?_
    refine V_istore_n (pc := 50) C dX12_tried_50 (by decide) rfl ?_
    refine V_weak (lv' := [some (.ref 103), none, none, some (.int (0 : Int32))]) (lvle_s (lvle_n (lvle_n (lvle_s lvle_0)))) ?_
    exact (T_X12_tried_b51 C) N (0 : Int32) h7 hyp
  · replace hyp := (if_pos q3).symm.trans hyp
    refine V_iconst (pc := 36) C dX12_tried_36 (v := -1) (by decide) ?_
    cases hyp
    exact V_iret C dX12_tried_37
def F_X12_tried (N : Nat) (a1 : Int32) (a2 : Int32) (h : PH) : Option (Int32 × PH) :=
  hb (hs h 103 0 (0 : Int32)) fun h1 =>
  if (h1.1 103 46) = 0 then
    some ((-1 : Int32), h1)
  else
    if a1 = (-1 : Int32) then
      F_X12_tried_b25 N a1 a2 h1
    else
      bI (F_X12_isFloor a1 h1) fun r4 h5 =>
      if r4 = 0 then
        some ((-1 : Int32), h5)
      else
        F_X12_tried_b25 N a1 a2 h5
set_option maxRecDepth 20000 in
set_option maxHeartbeats 4000000 in
theorem M_X12_tried (E : EV) {N : Nat} {a1 : Int32} {a2 : Int32} {r : Int32} {h h2 : PH} (hyp : F_X12_tried N a1 a2 h = some (r, h2)) : MI E 154 yX12_tried cX12_tried 4 (some .int) 7 160 [.ref 103, .int a1, .int a2] h r h2 := by
  refine MI.of 1 (by decide) rfl (fun X e1 C => ?_)
  subst e1
  replace C : CX X 154 cX12_tried 4 RX12 (some .int) 7 160 := C
  show V X _ h 0 [some (.ref 103), some (.int a1), some (.int a2), none] []
  unfold F_X12_tried at hyp
  refine V_aload_n (pc := 0) C dX12_tried_0 rfl ?_
  refine V_iconst (pc := 1) C dX12_tried_1 (v := 0) (by decide) ?_
  obtain ⟨h1, eh1, hyp⟩ := hb_n hyp
  refine V_putI (pc := 2) C dX12_tried_2 lf_X12_180 fk_103_0 rfl rfl eh1 ?_
  refine V_aload_n (pc := 5) C dX12_tried_5 rfl ?_
  refine V_getI (pc := 6) C dX12_tried_6 lf_X12_197 fk_103_46 ?_
  refine V_if_eq (pc := 9) C dX12_tried_9 (tgt := 36) (by decide) (fun q2 => ?_) (fun q2 => ?_)
  · replace hyp := (if_pos q2).symm.trans hyp
    refine V_iconst (pc := 36) C dX12_tried_36 (v := -1) (by decide) ?_
    cases hyp
    exact V_iret C dX12_tried_37
  · replace hyp := (if_neg q2).symm.trans hyp
    refine V_iload_n (pc := 12) C dX12_tried_12 rfl ?_
    refine V_iconst (pc := 13) C dX12_tried_13 (v := -1) (by decide) ?_
    refine V_icmp_eq (pc := 14) C dX12_tried_14 (tgt := 25) (by decide) (fun q3 => ?_) (fun q3 => ?_)
    · replace hyp := (if_pos q3).symm.trans hyp
      refine V_weak (lv' := [some (.ref 103), some (.int a1), some (.int a2), none]) (lvle_s (lvle_s (lvle_s (lvle_n lvle_0)))) ?_
      exact (T_X12_tried_b25 C) a1 a2 h1 hyp
    · replace hyp := (if_neg q3).symm.trans hyp
      refine V_aload_n (pc := 17) C dX12_tried_17 rfl ?_
      refine V_iload_n (pc := 18) C dX12_tried_18 rfl ?_
      obtain ⟨r4, h5, eh5, hyp⟩ := bI_n hyp
      refine V_callI (pc := 19) C dX12_tried_19 lm_X12_376 mk_X12_isFloor ok_103 rfl (M_X12_isFloor _ eh5) rfl pd_X12_isFloor (by decide) (by decide) (by decide) (As := [.int a1]) (rest := []) rfl (Nat.le_of_ble_eq_true rfl) ?_
      refine V_if_eq (pc := 22) C dX12_tried_22 (tgt := 36) (by decide) (fun q6 => ?_) (fun q6 => ?_)
      · replace hyp := (if_pos q6).symm.trans hyp
        refine V_iconst (pc := 36) C dX12_tried_36 (v := -1) (by decide) ?_
        cases hyp
        exact V_iret C dX12_tried_37
      · replace hyp := (if_neg q6).symm.trans hyp
        refine V_weak (lv' := [some (.ref 103), some (.int a1), some (.int a2), none]) (lvle_s (lvle_s (lvle_s (lvle_n lvle_0)))) ?_
        exact (T_X12_tried_b25 C) a1 a2 h5 hyp
theorem dX12_thought_0 : decode cX12_thought 0 = .ok (.aload_n 0, 1) := by decide +kernel
theorem dX12_thought_1 : decode cX12_thought 1 = .ok (.iconst 0, 1) := by decide +kernel
theorem dX12_thought_2 : decode cX12_thought 2 = .ok (.putfield 180, 3) := by decide +kernel
theorem dX12_thought_5 : decode cX12_thought 5 = .ok (.aload_n 0, 1) := by decide +kernel
theorem dX12_thought_6 : decode cX12_thought 6 = .ok (.getfield 197, 3) := by decide +kernel
theorem dX12_thought_9 : decode cX12_thought 9 = .ok (.ifCond .eq 25, 3) := by decide +kernel
theorem dX12_thought_12 : decode cX12_thought 12 = .ok (.iload_n 1, 1) := by decide +kernel
theorem dX12_thought_13 : decode cX12_thought 13 = .ok (.iconst 0, 1) := by decide +kernel
theorem dX12_thought_14 : decode cX12_thought 14 = .ok (.iconst 4, 1) := by decide +kernel
theorem dX12_thought_15 : decode cX12_thought 15 = .ok (.invokestatic 183, 3) := by decide +kernel
theorem dX12_thought_18 : decode cX12_thought 18 = .ok (.ifCond .eq 16, 3) := by decide +kernel
theorem dX12_thought_21 : decode cX12_thought 21 = .ok (.iload_n 1, 1) := by decide +kernel
theorem dX12_thought_22 : decode cX12_thought 22 = .ok (.ifCond .le 14, 3) := by decide +kernel
theorem dX12_thought_25 : decode cX12_thought 25 = .ok (.aload_n 0, 1) := by decide +kernel
theorem dX12_thought_26 : decode cX12_thought 26 = .ok (.getfield 99, 3) := by decide +kernel
theorem dX12_thought_29 : decode cX12_thought 29 = .ok (.iconst 0, 1) := by decide +kernel
theorem dX12_thought_30 : decode cX12_thought 30 = .ok (.iaload, 1) := by decide +kernel
theorem dX12_thought_31 : decode cX12_thought 31 = .ok (.ifCond .ne 5, 3) := by decide +kernel
theorem dX12_thought_34 : decode cX12_thought 34 = .ok (.iconst (-1), 1) := by decide +kernel
theorem dX12_thought_35 : decode cX12_thought 35 = .ok (.ireturn, 1) := by decide +kernel
theorem dX12_thought_36 : decode cX12_thought 36 = .ok (.iload_n 1, 1) := by decide +kernel
theorem dX12_thought_37 : decode cX12_thought 37 = .ok (.ifCond .ne 10, 3) := by decide +kernel
theorem dX12_thought_40 : decode cX12_thought 40 = .ok (.aload_n 0, 1) := by decide +kernel
theorem dX12_thought_41 : decode cX12_thought 41 = .ok (.getfield 99, 3) := by decide +kernel
theorem dX12_thought_44 : decode cX12_thought 44 = .ok (.iconst 0, 1) := by decide +kernel
theorem dX12_thought_45 : decode cX12_thought 45 = .ok (.iaload, 1) := by decide +kernel
theorem dX12_thought_46 : decode cX12_thought 46 = .ok (.ireturn, 1) := by decide +kernel
theorem dX12_thought_47 : decode cX12_thought 47 = .ok (.sipush 255, 3) := by decide +kernel
theorem dX12_thought_50 : decode cX12_thought 50 = .ok (.istore_n 2, 1) := by decide +kernel
theorem dX12_thought_51 : decode cX12_thought 51 = .ok (.iconst 0, 1) := by decide +kernel
theorem dX12_thought_52 : decode cX12_thought 52 = .ok (.istore_n 3, 1) := by decide +kernel
theorem dX12_thought_53 : decode cX12_thought 53 = .ok (.iconst 0, 1) := by decide +kernel
theorem dX12_thought_54 : decode cX12_thought 54 = .ok (.istore 4, 2) := by decide +kernel
theorem dX12_thought_56 : decode cX12_thought 56 = .ok (.iconst 0, 1) := by decide +kernel
theorem dX12_thought_57 : decode cX12_thought 57 = .ok (.istore 5, 2) := by decide +kernel
theorem dX12_thought_59 : decode cX12_thought 59 = .ok (.iconst 0, 1) := by decide +kernel
theorem dX12_thought_60 : decode cX12_thought 60 = .ok (.istore 6, 2) := by decide +kernel
theorem dX12_thought_62 : decode cX12_thought 62 = .ok (.iload 6, 2) := by decide +kernel
theorem dX12_thought_64 : decode cX12_thought 64 = .ok (.aload_n 0, 1) := by decide +kernel
theorem dX12_thought_65 : decode cX12_thought 65 = .ok (.getfield 99, 3) := by decide +kernel
theorem dX12_thought_68 : decode cX12_thought 68 = .ok (.iconst 0, 1) := by decide +kernel
theorem dX12_thought_69 : decode cX12_thought 69 = .ok (.iaload, 1) := by decide +kernel
theorem dX12_thought_70 : decode cX12_thought 70 = .ok (.if_icmp .ge 66, 3) := by decide +kernel
theorem dX12_thought_73 : decode cX12_thought 73 = .ok (.aload_n 0, 1) := by decide +kernel
theorem dX12_thought_74 : decode cX12_thought 74 = .ok (.getfield 96, 3) := by decide +kernel
theorem dX12_thought_77 : decode cX12_thought 77 = .ok (.iload 6, 2) := by decide +kernel
theorem dX12_thought_79 : decode cX12_thought 79 = .ok (.iaload, 1) := by decide +kernel
theorem dX12_thought_80 : decode cX12_thought 80 = .ok (.istore 7, 2) := by decide +kernel
theorem dX12_thought_82 : decode cX12_thought 82 = .ok (.iload_n 2, 1) := by decide +kernel
theorem dX12_thought_83 : decode cX12_thought 83 = .ok (.iload 7, 2) := by decide +kernel
theorem dX12_thought_85 : decode cX12_thought 85 = .ok (.sipush 255, 3) := by decide +kernel
theorem dX12_thought_88 : decode cX12_thought 88 = .ok (.iand, 1) := by decide +kernel
theorem dX12_thought_89 : decode cX12_thought 89 = .ok (.iand, 1) := by decide +kernel
theorem dX12_thought_90 : decode cX12_thought 90 = .ok (.istore_n 2, 1) := by decide +kernel
theorem dX12_thought_91 : decode cX12_thought 91 = .ok (.iload_n 3, 1) := by decide +kernel
theorem dX12_thought_92 : decode cX12_thought 92 = .ok (.iload 7, 2) := by decide +kernel
theorem dX12_thought_94 : decode cX12_thought 94 = .ok (.sipush 255, 3) := by decide +kernel
theorem dX12_thought_97 : decode cX12_thought 97 = .ok (.iand, 1) := by decide +kernel
theorem dX12_thought_98 : decode cX12_thought 98 = .ok (.ior, 1) := by decide +kernel
theorem dX12_thought_99 : decode cX12_thought 99 = .ok (.istore_n 3, 1) := by decide +kernel
theorem dX12_thought_100 : decode cX12_thought 100 = .ok (.iload 4, 2) := by decide +kernel
theorem dX12_thought_102 : decode cX12_thought 102 = .ok (.iconst 1, 1) := by decide +kernel
theorem dX12_thought_103 : decode cX12_thought 103 = .ok (.iload 7, 2) := by decide +kernel
theorem dX12_thought_105 : decode cX12_thought 105 = .ok (.invokestatic 363, 3) := by decide +kernel
theorem dX12_thought_108 : decode cX12_thought 108 = .ok (.ishl, 1) := by decide +kernel
theorem dX12_thought_109 : decode cX12_thought 109 = .ok (.ior, 1) := by decide +kernel
theorem dX12_thought_110 : decode cX12_thought 110 = .ok (.istore 4, 2) := by decide +kernel
theorem dX12_thought_112 : decode cX12_thought 112 = .ok (.iload 5, 2) := by decide +kernel
theorem dX12_thought_114 : decode cX12_thought 114 = .ok (.iload 7, 2) := by decide +kernel
theorem dX12_thought_116 : decode cX12_thought 116 = .ok (.invokestatic 360, 3) := by decide +kernel
theorem dX12_thought_119 : decode cX12_thought 119 = .ok (.ifCond .eq 7, 3) := by decide +kernel
theorem dX12_thought_122 : decode cX12_thought 122 = .ok (.iconst 2, 1) := by decide +kernel
theorem dX12_thought_123 : decode cX12_thought 123 = .ok (.goto 4, 3) := by decide +kernel
theorem dX12_thought_126 : decode cX12_thought 126 = .ok (.iconst 1, 1) := by decide +kernel
theorem dX12_thought_127 : decode cX12_thought 127 = .ok (.ior, 1) := by decide +kernel
theorem dX12_thought_128 : decode cX12_thought 128 = .ok (.istore 5, 2) := by decide +kernel
theorem dX12_thought_130 : decode cX12_thought 130 = .ok (.iinc 6 1, 3) := by decide +kernel
theorem dX12_thought_133 : decode cX12_thought 133 = .ok (.goto (-71), 3) := by decide +kernel
theorem dX12_thought_136 : decode cX12_thought 136 = .ok (.iload_n 1, 1) := by decide +kernel
theorem dX12_thought_137 : decode cX12_thought 137 = .ok (.iconst 1, 1) := by decide +kernel
theorem dX12_thought_138 : decode cX12_thought 138 = .ok (.if_icmp .ne 7, 3) := by decide +kernel
theorem dX12_thought_141 : decode cX12_thought 141 = .ok (.iload_n 2, 1) := by decide +kernel
theorem dX12_thought_142 : decode cX12_thought 142 = .ok (.goto 26, 3) := by decide +kernel
theorem dX12_thought_145 : decode cX12_thought 145 = .ok (.iload_n 1, 1) := by decide +kernel
theorem dX12_thought_146 : decode cX12_thought 146 = .ok (.iconst 2, 1) := by decide +kernel
theorem dX12_thought_147 : decode cX12_thought 147 = .ok (.if_icmp .ne 7, 3) := by decide +kernel
theorem dX12_thought_150 : decode cX12_thought 150 = .ok (.iload_n 3, 1) := by decide +kernel
theorem dX12_thought_151 : decode cX12_thought 151 = .ok (.goto 17, 3) := by decide +kernel
theorem dX12_thought_154 : decode cX12_thought 154 = .ok (.iload_n 1, 1) := by decide +kernel
theorem dX12_thought_155 : decode cX12_thought 155 = .ok (.iconst 3, 1) := by decide +kernel
theorem dX12_thought_156 : decode cX12_thought 156 = .ok (.if_icmp .ne 8, 3) := by decide +kernel
theorem dX12_thought_159 : decode cX12_thought 159 = .ok (.iload 4, 2) := by decide +kernel
theorem dX12_thought_161 : decode cX12_thought 161 = .ok (.goto 7, 3) := by decide +kernel
theorem dX12_thought_164 : decode cX12_thought 164 = .ok (.iload 5, 2) := by decide +kernel
theorem dX12_thought_166 : decode cX12_thought 166 = .ok (.iconst 1, 1) := by decide +kernel
theorem dX12_thought_167 : decode cX12_thought 167 = .ok (.isub, 1) := by decide +kernel
theorem dX12_thought_168 : decode cX12_thought 168 = .ok (.ireturn, 1) := by decide +kernel
def F_X12_thought_b127 (N : Nat) (rc62 : Int32 → Int32 → Int32 → Int32 → Int32 → Int32 → PH → Option (Int32 × PH)) (x1 : Int32) (x2 : Int32) (x3 : Int32) (x4 : Int32) (x6 : Int32) (s0 : Int32) (s1 : Int32) (h : PH) : Option (Int32 × PH) :=
  ib (s1 ||| s0) fun v1 =>
  ib (x6 + (1 : Int32)) fun v2 =>
  rc62 x1 x2 x3 x4 v1 v2 h
set_option maxRecDepth 20000 in
set_option maxHeartbeats 4000000 in
theorem T_X12_thought_b127 {X : CT} (C : CX X 154 cX12_thought 8 RX12 (some .int) 1 22) {r0 : Int32} {h0 : PH} {N : Nat} {rc62 : Int32 → Int32 → Int32 → Int32 → Int32 → Int32 → PH → Option (Int32 × PH)} (hr62 : ∀ (x1 : Int32) (x2 : Int32) (x3 : Int32) (x4 : Int32) (x5 : Int32) (x6 : Int32) (h : PH), rc62 x1 x2 x3 x4 x5 x6 h = some (r0, h0) → V X (QI X r0 h0) h 62 [some (.ref 103), some (.int x1), some (.int x2), some (.int x3), some (.int x4), some (.int x5), some (.int x6), none] []) : ∀ (x1 : Int32) (x2 : Int32) (x3 : Int32) (x4 : Int32) (x6 : Int32) (s0 : Int32) (s1 : Int32) (h : PH), F_X12_thought_b127 N rc62 x1 x2 x3 x4 x6 s0 s1 h = some (r0, h0) → V X (QI X r0 h0) h 127 [some (.ref 103), some (.int x1), some (.int x2), some (.int x3), some (.int x4), none, some (.int x6), none] [.int s0, .int s1] := by
  intro x1 x2 x3 x4 x6 s0 s1 h hyp
  unfold F_X12_thought_b127 at hyp
  refine V_ior (pc := 127) C dX12_thought_127 ?_
  obtain ⟨v1, ev1, hyp⟩ := ib_n hyp
  refine V_topI ev1 ?_
  refine V_istore (pc := 128) C dX12_thought_128 (by decide) rfl ?_
  obtain ⟨v2, ev2, hyp⟩ := ib_n hyp
  refine V_iinc (pc := 130) C dX12_thought_130 (v := v2) rfl (by rw [ev2]; rfl) (by decide) rfl ?_
  refine V_goto (pc := 133) C dX12_thought_133 (tgt := 62) (by decide) ?_
  refine V_weak (lv' := [some (.ref 103), some (.int x1), some (.int x2), some (.int x3), some (.int x4), some (.int v1), some (.int v2), none]) (lvle_s (lvle_s (lvle_s (lvle_s (lvle_s (lvle_s (lvle_s (lvle_n lvle_0)))))))) ?_
  exact hr62 x1 x2 x3 x4 v1 v2 h hyp
def F_X12_thought_b136 (N : Nat) (x1 : Int32) (x2 : Int32) (x3 : Int32) (x4 : Int32) (x5 : Int32) (h : PH) : Option (Int32 × PH) :=
  if x1 = (1 : Int32) then
    some (x2, h)
  else
    if x1 = (2 : Int32) then
      some (x3, h)
    else
      if x1 = (3 : Int32) then
        some (x4, h)
      else
        some (x5 - (1 : Int32), h)
set_option maxRecDepth 20000 in
set_option maxHeartbeats 4000000 in
theorem T_X12_thought_b136 {X : CT} (C : CX X 154 cX12_thought 8 RX12 (some .int) 1 22) {r0 : Int32} {h0 : PH} {N : Nat} : ∀ (x1 : Int32) (x2 : Int32) (x3 : Int32) (x4 : Int32) (x5 : Int32) (h : PH), F_X12_thought_b136 N x1 x2 x3 x4 x5 h = some (r0, h0) → V X (QI X r0 h0) h 136 [none, some (.int x1), some (.int x2), some (.int x3), some (.int x4), some (.int x5), none, none] [] := by
  intro x1 x2 x3 x4 x5 h hyp
  unfold F_X12_thought_b136 at hyp
  refine V_iload_n (pc := 136) C dX12_thought_136 rfl ?_
  refine V_iconst (pc := 137) C dX12_thought_137 (v := 1) (by decide) ?_
  refine V_icmp_ne (pc := 138) C dX12_thought_138 (tgt := 145) (by decide) (fun q1 => ?_) (fun q1 => ?_)
  · replace hyp := (if_neg q1).symm.trans hyp
    refine V_iload_n (pc := 145) C dX12_thought_145 rfl ?_
    refine V_iconst (pc := 146) C dX12_thought_146 (v := 2) (by decide) ?_
    refine V_icmp_ne (pc := 147) C dX12_thought_147 (tgt := 154) (by decide) (fun q2 => ?_) (fun q2 => ?_)
    · replace hyp := (if_neg q2).symm.trans hyp
      refine V_iload_n (pc := 154) C dX12_thought_154 rfl ?_
      refine V_iconst (pc := 155) C dX12_thought_155 (v := 3) (by decide) ?_
      refine V_icmp_ne (pc := 156) C dX12_thought_156 (tgt := 164) (by decide) (fun q3 => ?_) (fun q3 => ?_)
      · replace hyp := (if_neg q3).symm.trans hyp
        refine V_iload (pc := 164) C dX12_thought_164 rfl ?_
        refine V_iconst (pc := 166) C dX12_thought_166 (v := 1) (by decide) ?_
        refine V_isub (pc := 167) C dX12_thought_167 ?_
        cases hyp
        exact V_iret C dX12_thought_168
      · replace hyp := (if_pos q3).symm.trans hyp
        refine V_iload (pc := 159) C dX12_thought_159 rfl ?_
        refine V_goto (pc := 161) C dX12_thought_161 (tgt := 168) (by decide) ?_
        cases hyp
        exact V_iret C dX12_thought_168
    · replace hyp := (if_pos q2).symm.trans hyp
      refine V_iload_n (pc := 150) C dX12_thought_150 rfl ?_
      refine V_goto (pc := 151) C dX12_thought_151 (tgt := 168) (by decide) ?_
      cases hyp
      exact V_iret C dX12_thought_168
  · replace hyp := (if_pos q1).symm.trans hyp
    refine V_iload_n (pc := 141) C dX12_thought_141 rfl ?_
    refine V_goto (pc := 142) C dX12_thought_142 (tgt := 168) (by decide) ?_
    cases hyp
    exact V_iret C dX12_thought_168
def F_X12_thought_b62 (N : Nat) : Nat → Int32 → Int32 → Int32 → Int32 → Int32 → Int32 → PH → Option (Int32 × PH)
  | 0, _, _, _, _, _, _, _ => none
  | n + 1, x1, x2, x3, x4, x5, x6, h =>
    if inb (0 : Int32) 4 = true then
    if (h.1 132 (0 : Int32).toNatClampNeg) ≤ x6 then
      F_X12_thought_b136 N x1 x2 x3 x4 x5 h
    else
      if inb x6 12288 = true then
      ib (h.1 131 x6.toNatClampNeg) fun v4 =>
      ib (x2 &&& (v4 &&& (255 : Int32))) fun v5 =>
      ib (x3 ||| (v4 &&& (255 : Int32))) fun v6 =>
      bI (F_X12_floorOf v4 h) fun r7 h8 =>
      ib (x4 ||| ((1 : Int32) <<< (r7 &&& 31))) fun v9 =>
      bI (F_X12_isOpen v4 h8) fun r10 h11 =>
      if r10 = 0 then
        F_X12_thought_b127 N (F_X12_thought_b62 N n) x1 v5 v6 v9 x6 (1 : Int32) x5 h11
      else
        F_X12_thought_b127 N (F_X12_thought_b62 N n) x1 v5 v6 v9 x6 (2 : Int32) x5 h11
      else none
    else none
set_option maxRecDepth 20000 in
set_option maxHeartbeats 4000000 in
theorem T_X12_thought_b62 {X : CT} (C : CX X 154 cX12_thought 8 RX12 (some .int) 1 22) {r0 : Int32} {h0 : PH} {N : Nat} : ∀ (n : Nat) (x1 : Int32) (x2 : Int32) (x3 : Int32) (x4 : Int32) (x5 : Int32) (x6 : Int32) (h : PH), F_X12_thought_b62 N n x1 x2 x3 x4 x5 x6 h = some (r0, h0) → V X (QI X r0 h0) h 62 [some (.ref 103), some (.int x1), some (.int x2), some (.int x3), some (.int x4), some (.int x5), some (.int x6), none] [] := by
  intro n
  induction n with
  | zero =>
    intro x1 x2 x3 x4 x5 x6 h hyp
    cases hyp
  | succ n ih =>
    intro x1 x2 x3 x4 x5 x6 h hyp
    unfold F_X12_thought_b62 at hyp
    refine V_iload (pc := 62) C dX12_thought_62 rfl ?_
    refine V_aload_n (pc := 64) C dX12_thought_64 rfl ?_
    refine V_getR (pc := 65) C dX12_thought_65 lf_X12_99 fk_103_48 ?_
    refine V_iconst (pc := 68) C dX12_thought_68 (v := 0) (by decide) ?_
    obtain ⟨g1, hyp⟩ := gd_n hyp
    refine V_iald (pc := 69) C dX12_thought_69 ak_132 g1 ?_
    refine V_icmp_ge (pc := 70) C dX12_thought_70 (tgt := 136) (by decide) (fun q2 => ?_) (fun q2 => ?_)
    · replace hyp := (if_pos q2).symm.trans hyp
      refine V_weak (lv' := [none, some (.int x1), some (.int x2), some (.int x3), some (.int x4), some (.int x5), none, none]) (lvle_n (lvle_s (lvle_s (lvle_s (lvle_s (lvle_s (lvle_n (lvle_n lvle_0)))))))) ?_
      exact (T_X12_thought_b136 C) x1 x2 x3 x4 x5 h hyp
    · replace hyp := (if_neg q2).symm.trans hyp
      refine V_aload_n (pc := 73) C dX12_thought_73 rfl ?_
      refine V_getR (pc := 74) C dX12_thought_74 lf_X12_96 fk_103_47 ?_
      refine V_iload (pc := 77) C dX12_thought_77 rfl ?_
      obtain ⟨g3, hyp⟩ := gd_n hyp
      refine V_iald (pc := 79) C dX12_thought_79 ak_131 g3 ?_
      obtain ⟨v4, ev4, hyp⟩ := ib_n hyp
      refine V_topI ev4 ?_
      refine V_istore (pc := 80) C dX12_thought_80 (by decide) rfl ?_
      refine V_iload_n (pc := 82) C dX12_thought_82 rfl ?_
      refine V_iload (pc := 83) C dX12_thought_83 rfl ?_
      refine V_sipush (pc := 85) C dX12_thought_85 (v := 255) (by decide) ?_
      refine V_iand (pc := 88) C dX12_thought_88 ?_
      refine V_iand (pc := 89) C dX12_thought_89 ?_
      obtain ⟨v5, ev5, hyp⟩ := ib_n hyp
      refine V_topI ev5 ?_
      refine V_istore_n (pc := 90) C dX12_thought_90 (by decide) rfl ?_
      refine V_iload_n (pc := 91) C dX12_thought_91 rfl ?_
      refine V_iload (pc := 92) C dX12_thought_92 rfl ?_
      refine V_sipush (pc := 94) C dX12_thought_94 (v := 255) (by decide) ?_
      refine V_iand (pc := 97) C dX12_thought_97 ?_
      refine V_ior (pc := 98) C dX12_thought_98 ?_
      obtain ⟨v6, ev6, hyp⟩ := ib_n hyp
      refine V_topI ev6 ?_
      refine V_istore_n (pc := 99) C dX12_thought_99 (by decide) rfl ?_
      refine V_iload (pc := 100) C dX12_thought_100 rfl ?_
      refine V_iconst (pc := 102) C dX12_thought_102 (v := 1) (by decide) ?_
      refine V_iload (pc := 103) C dX12_thought_103 rfl ?_
      obtain ⟨r7, h8, eh8, hyp⟩ := bI_n hyp
      refine V_statI (pc := 105) C dX12_thought_105 lm_X12_363 ms_X12_floorOf (M_X12_floorOf _ eh8) rfl pd_X12_floorOf (by decide) (by decide) (by decide) (As := [.int v4]) (rest := [.int (1 : Int32), .int x4]) rfl (Nat.le_of_ble_eq_true rfl) ?_
      refine V_ishl (pc := 108) C dX12_thought_108 ?_
      refine V_ior (pc := 109) C dX12_thought_109 ?_
      obtain ⟨v9, ev9, hyp⟩ := ib_n hyp
      refine V_topI ev9 ?_
      refine V_istore (pc := 110) C dX12_thought_110 (by decide) rfl ?_
      refine V_iload (pc := 112) C dX12_thought_112 rfl ?_
      refine V_iload (pc := 114) C dX12_thought_114 rfl ?_
      obtain ⟨r10, h11, eh11, hyp⟩ := bI_n hyp
      refine V_statI (pc := 116) C dX12_thought_116 lm_X12_360 ms_X12_isOpen (M_X12_isOpen _ eh11) rfl pd_X12_isOpen (by decide) (by decide) (by decide) (As := [.int v4]) (rest := [.int x5]) rfl (Nat.le_of_ble_eq_true rfl) ?_
      refine V_if_eq (pc := 119) C dX12_thought_119 (tgt := 126) (by decide) (fun q12 => ?_) (fun q12 => ?_)
      · replace hyp := (if_pos q12).symm.trans hyp
        refine V_iconst (pc := 126) C dX12_thought_126 (v := 1) (by decide) ?_
        refine V_weak (lv' := [some (.ref 103), some (.int x1), some (.int v5), some (.int v6), some (.int v9), none, some (.int x6), none]) (lvle_s (lvle_s (lvle_s (lvle_s (lvle_s (lvle_n (lvle_s (lvle_n lvle_0)))))))) ?_
        exact (T_X12_thought_b127 C ih) x1 v5 v6 v9 x6 (1 : Int32) x5 h11 hyp
      · replace hyp := (if_neg q12).symm.trans hyp
        refine V_iconst (pc := 122) C dX12_thought_122 (v := 2) (by decide) ?_
        refine V_goto (pc := 123) C dX12_thought_123 (tgt := 127) (by decide) ?_
        refine V_weak (lv' := [some (.ref 103), some (.int x1), some (.int v5), some (.int v6), some (.int v9), none, some (.int x6), none]) (lvle_s (lvle_s (lvle_s (lvle_s (lvle_s (lvle_n (lvle_s (lvle_n lvle_0)))))))) ?_
        exact (T_X12_thought_b127 C ih) x1 v5 v6 v9 x6 (2 : Int32) x5 h11 hyp
def F_X12_thought_b36 (N : Nat) (x1 : Int32) (h : PH) : Option (Int32 × PH) :=
  if x1 = 0 then
    if inb (0 : Int32) 4 = true then
    some (h.1 132 (0 : Int32).toNatClampNeg, h)
    else none
  else
    F_X12_thought_b62 N N x1 (255 : Int32) (0 : Int32) (0 : Int32) (0 : Int32) (0 : Int32) h
set_option maxRecDepth 20000 in
set_option maxHeartbeats 4000000 in
theorem T_X12_thought_b36 {X : CT} (C : CX X 154 cX12_thought 8 RX12 (some .int) 1 22) {r0 : Int32} {h0 : PH} {N : Nat} : ∀ (x1 : Int32) (h : PH), F_X12_thought_b36 N x1 h = some (r0, h0) → V X (QI X r0 h0) h 36 [some (.ref 103), some (.int x1), none, none, none, none, none, none] [] := by
  intro x1 h hyp
  unfold F_X12_thought_b36 at hyp
  refine V_iload_n (pc := 36) C dX12_thought_36 rfl ?_
  refine V_if_ne (pc := 37) C dX12_thought_37 (tgt := 47) (by decide) (fun q1 => ?_) (fun q1 => ?_)
  · replace hyp := (if_neg q1).symm.trans hyp
    refine V_sipush (pc := 47) C dX12_thought_47 (v := 255) (by decide) ?_
    refine V_istore_n (pc := 50) C dX12_thought_50 (by decide) rfl ?_
    refine V_iconst (pc := 51) C dX12_thought_51 (v := 0) (by decide) ?_
    refine V_istore_n (pc := 52) C dX12_thought_52 (by decide) rfl ?_
    refine V_iconst (pc := 53) C dX12_thought_53 (v := 0) (by decide) ?_
    refine V_istore (pc := 54) C dX12_thought_54 (by decide) rfl ?_
    refine V_iconst (pc := 56) C dX12_thought_56 (v := 0) (by decide) ?_
    refine V_istore (pc := 57) C dX12_thought_57 (by decide) rfl ?_
    refine V_iconst (pc := 59) C dX12_thought_59 (v := 0) (by decide) ?_
    refine V_istore (pc := 60) C dX12_thought_60 (by decide) rfl ?_
    refine V_weak (lv' := [some (.ref 103), some (.int x1), some (.int (255 : Int32)), some (.int (0 : Int32)), some (.int (0 : Int32)), some (.int (0 : Int32)), some (.int (0 : Int32)), none]) (lvle_s (lvle_s (lvle_s (lvle_s (lvle_s (lvle_s (lvle_s (lvle_n lvle_0)))))))) ?_
    exact (T_X12_thought_b62 C) N x1 (255 : Int32) (0 : Int32) (0 : Int32) (0 : Int32) (0 : Int32) h hyp
  · replace hyp := (if_pos q1).symm.trans hyp
    refine V_aload_n (pc := 40) C dX12_thought_40 rfl ?_
    refine V_getR (pc := 41) C dX12_thought_41 lf_X12_99 fk_103_48 ?_
    refine V_iconst (pc := 44) C dX12_thought_44 (v := 0) (by decide) ?_
    obtain ⟨g2, hyp⟩ := gd_n hyp
    refine V_iald (pc := 45) C dX12_thought_45 ak_132 g2 ?_
    cases hyp
    exact V_iret C dX12_thought_46
def F_X12_thought (N : Nat) (a1 : Int32) (h : PH) : Option (Int32 × PH) :=
  hb (hs h 103 0 (0 : Int32)) fun h1 =>
  if (h1.1 103 46) = 0 then
    some ((-1 : Int32), h1)
  else
    bI (F_X12_within a1 (0 : Int32) (4 : Int32) h1) fun r3 h4 =>
    if r3 = 0 then
      some ((-1 : Int32), h4)
    else
      if a1 ≤ 0 then
        F_X12_thought_b36 N a1 h4
      else
        if inb (0 : Int32) 4 = true then
        if (h4.1 132 (0 : Int32).toNatClampNeg) = 0 then
          some ((-1 : Int32), h4)
        else
          F_X12_thought_b36 N a1 h4
        else none
set_option maxRecDepth 20000 in
set_option maxHeartbeats 4000000 in
theorem M_X12_thought (E : EV) {N : Nat} {a1 : Int32} {r : Int32} {h h2 : PH} (hyp : F_X12_thought N a1 h = some (r, h2)) : MI E 154 yX12_thought cX12_thought 8 (some .int) 1 22 [.ref 103, .int a1] h r h2 := by
  refine MI.of 6 (by decide) rfl (fun X e1 C => ?_)
  subst e1
  replace C : CX X 154 cX12_thought 8 RX12 (some .int) 1 22 := C
  show V X _ h 0 [some (.ref 103), some (.int a1), none, none, none, none, none, none] []
  unfold F_X12_thought at hyp
  refine V_aload_n (pc := 0) C dX12_thought_0 rfl ?_
  refine V_iconst (pc := 1) C dX12_thought_1 (v := 0) (by decide) ?_
  obtain ⟨h1, eh1, hyp⟩ := hb_n hyp
  refine V_putI (pc := 2) C dX12_thought_2 lf_X12_180 fk_103_0 rfl rfl eh1 ?_
  refine V_aload_n (pc := 5) C dX12_thought_5 rfl ?_
  refine V_getI (pc := 6) C dX12_thought_6 lf_X12_197 fk_103_46 ?_
  refine V_if_eq (pc := 9) C dX12_thought_9 (tgt := 34) (by decide) (fun q2 => ?_) (fun q2 => ?_)
  · replace hyp := (if_pos q2).symm.trans hyp
    refine V_iconst (pc := 34) C dX12_thought_34 (v := -1) (by decide) ?_
    cases hyp
    exact V_iret C dX12_thought_35
  · replace hyp := (if_neg q2).symm.trans hyp
    refine V_iload_n (pc := 12) C dX12_thought_12 rfl ?_
    refine V_iconst (pc := 13) C dX12_thought_13 (v := 0) (by decide) ?_
    refine V_iconst (pc := 14) C dX12_thought_14 (v := 4) (by decide) ?_
    obtain ⟨r3, h4, eh4, hyp⟩ := bI_n hyp
    refine V_statI (pc := 15) C dX12_thought_15 lm_X12_183 ms_X12_within (M_X12_within _ eh4) rfl pd_X12_within (by decide) (by decide) (by decide) (As := [.int a1, .int (0 : Int32), .int (4 : Int32)]) (rest := []) rfl (Nat.le_of_ble_eq_true rfl) ?_
    refine V_if_eq (pc := 18) C dX12_thought_18 (tgt := 34) (by decide) (fun q5 => ?_) (fun q5 => ?_)
    · replace hyp := (if_pos q5).symm.trans hyp
      refine V_iconst (pc := 34) C dX12_thought_34 (v := -1) (by decide) ?_
      cases hyp
      exact V_iret C dX12_thought_35
    · replace hyp := (if_neg q5).symm.trans hyp
      refine V_iload_n (pc := 21) C dX12_thought_21 rfl ?_
      refine V_if_le (pc := 22) C dX12_thought_22 (tgt := 36) (by decide) (fun q6 => ?_) (fun q6 => ?_)
      · replace hyp := (if_pos q6).symm.trans hyp
        refine V_weak (lv' := [some (.ref 103), some (.int a1), none, none, none, none, none, none]) (lvle_s (lvle_s (lvle_n (lvle_n (lvle_n (lvle_n (lvle_n (lvle_n lvle_0)))))))) ?_
        exact (T_X12_thought_b36 C) a1 h4 hyp
      · replace hyp := (if_neg q6).symm.trans hyp
        refine V_aload_n (pc := 25) C dX12_thought_25 rfl ?_
        refine V_getR (pc := 26) C dX12_thought_26 lf_X12_99 fk_103_48 ?_
        refine V_iconst (pc := 29) C dX12_thought_29 (v := 0) (by decide) ?_
        obtain ⟨g7, hyp⟩ := gd_n hyp
        refine V_iald (pc := 30) C dX12_thought_30 ak_132 g7 ?_
        refine V_if_ne (pc := 31) C dX12_thought_31 (tgt := 36) (by decide) (fun q8 => ?_) (fun q8 => ?_)
        · replace hyp := (if_neg q8).symm.trans hyp
          refine V_weak (lv' := [some (.ref 103), some (.int a1), none, none, none, none, none, none]) (lvle_s (lvle_s (lvle_n (lvle_n (lvle_n (lvle_n (lvle_n (lvle_n lvle_0)))))))) ?_
          exact (T_X12_thought_b36 C) a1 h4 hyp
        · replace hyp := (if_pos q8).symm.trans hyp
          refine V_iconst (pc := 34) C dX12_thought_34 (v := -1) (by decide) ?_
          cases hyp
          exact V_iret C dX12_thought_35
theorem dX12_isOne_0 : decode cX12_isOne 0 = .ok (.iconst 1, 1) := by decide +kernel
theorem dX12_isOne_1 : decode cX12_isOne 1 = .ok (.istore_n 2, 1) := by decide +kernel
theorem dX12_isOne_2 : decode cX12_isOne 2 = .ok (.iload_n 2, 1) := by decide +kernel
theorem dX12_isOne_3 : decode cX12_isOne 3 = .ok (.aload_n 0, 1) := by decide +kernel
theorem dX12_isOne_4 : decode cX12_isOne 4 = .ok (.getfield 99, 3) := by decide +kernel
theorem dX12_isOne_7 : decode cX12_isOne 7 = .ok (.iload_n 1, 1) := by decide +kernel
theorem dX12_isOne_8 : decode cX12_isOne 8 = .ok (.iaload, 1) := by decide +kernel
theorem dX12_isOne_9 : decode cX12_isOne 9 = .ok (.if_icmp .ge 42, 3) := by decide +kernel
theorem dX12_isOne_12 : decode cX12_isOne 12 = .ok (.aload_n 0, 1) := by decide +kernel
theorem dX12_isOne_13 : decode cX12_isOne 13 = .ok (.getfield 96, 3) := by decide +kernel
theorem dX12_isOne_16 : decode cX12_isOne 16 = .ok (.sipush 3072, 3) := by decide +kernel
theorem dX12_isOne_19 : decode cX12_isOne 19 = .ok (.iload_n 1, 1) := by decide +kernel
theorem dX12_isOne_20 : decode cX12_isOne 20 = .ok (.imul, 1) := by decide +kernel
theorem dX12_isOne_21 : decode cX12_isOne 21 = .ok (.iload_n 2, 1) := by decide +kernel
theorem dX12_isOne_22 : decode cX12_isOne 22 = .ok (.iadd, 1) := by decide +kernel
theorem dX12_isOne_23 : decode cX12_isOne 23 = .ok (.iaload, 1) := by decide +kernel
theorem dX12_isOne_24 : decode cX12_isOne 24 = .ok (.invokestatic 363, 3) := by decide +kernel
theorem dX12_isOne_27 : decode cX12_isOne 27 = .ok (.aload_n 0, 1) := by decide +kernel
theorem dX12_isOne_28 : decode cX12_isOne 28 = .ok (.getfield 96, 3) := by decide +kernel
theorem dX12_isOne_31 : decode cX12_isOne 31 = .ok (.sipush 3072, 3) := by decide +kernel
theorem dX12_isOne_34 : decode cX12_isOne 34 = .ok (.iload_n 1, 1) := by decide +kernel
theorem dX12_isOne_35 : decode cX12_isOne 35 = .ok (.imul, 1) := by decide +kernel
theorem dX12_isOne_36 : decode cX12_isOne 36 = .ok (.iaload, 1) := by decide +kernel
theorem dX12_isOne_37 : decode cX12_isOne 37 = .ok (.invokestatic 363, 3) := by decide +kernel
theorem dX12_isOne_40 : decode cX12_isOne 40 = .ok (.if_icmp .eq 5, 3) := by decide +kernel
theorem dX12_isOne_43 : decode cX12_isOne 43 = .ok (.iconst 0, 1) := by decide +kernel
theorem dX12_isOne_44 : decode cX12_isOne 44 = .ok (.ireturn, 1) := by decide +kernel
theorem dX12_isOne_45 : decode cX12_isOne 45 = .ok (.iinc 2 1, 3) := by decide +kernel
theorem dX12_isOne_48 : decode cX12_isOne 48 = .ok (.goto (-46), 3) := by decide +kernel
theorem dX12_isOne_51 : decode cX12_isOne 51 = .ok (.iconst 1, 1) := by decide +kernel
theorem dX12_isOne_52 : decode cX12_isOne 52 = .ok (.ireturn, 1) := by decide +kernel
def F_X12_isOne_b2 (N : Nat) : Nat → Int32 → Int32 → PH → Option (Int32 × PH)
  | 0, _, _, _ => none
  | n + 1, x1, x2, h =>
    if inb x1 4 = true then
    if (h.1 132 x1.toNatClampNeg) ≤ x2 then
      some ((1 : Int32), h)
    else
      if inb (((3072 : Int32) * x1) + x2) 12288 = true then
      bI (F_X12_floorOf (h.1 131 (((3072 : Int32) * x1) + x2).toNatClampNeg) h) fun r4 h5 =>
      if inb ((3072 : Int32) * x1) 12288 = true then
      bI (F_X12_floorOf (h5.1 131 ((3072 : Int32) * x1).toNatClampNeg) h5) fun r7 h8 =>
      if r4 = r7 then
        ib (x2 + (1 : Int32)) fun v10 =>
        F_X12_isOne_b2 N n x1 v10 h8
      else
        some ((0 : Int32), h8)
      else none
      else none
    else none
set_option maxRecDepth 20000 in
set_option maxHeartbeats 4000000 in
theorem T_X12_isOne_b2 {X : CT} (C : CX X 154 cX12_isOne 3 RX12 (some .boolean) 1 20) {r0 : Int32} {h0 : PH} {N : Nat} : ∀ (n : Nat) (x1 : Int32) (x2 : Int32) (h : PH), F_X12_isOne_b2 N n x1 x2 h = some (r0, h0) → V X (QI X r0 h0) h 2 [some (.ref 103), some (.int x1), some (.int x2)] [] := by
  intro n
  induction n with
  | zero =>
    intro x1 x2 h hyp
    cases hyp
  | succ n ih =>
    intro x1 x2 h hyp
    unfold F_X12_isOne_b2 at hyp
    refine V_iload_n (pc := 2) C dX12_isOne_2 rfl ?_
    refine V_aload_n (pc := 3) C dX12_isOne_3 rfl ?_
    refine V_getR (pc := 4) C dX12_isOne_4 lf_X12_99 fk_103_48 ?_
    refine V_iload_n (pc := 7) C dX12_isOne_7 rfl ?_
    obtain ⟨g1, hyp⟩ := gd_n hyp
    refine V_iald (pc := 8) C dX12_isOne_8 ak_132 g1 ?_
    refine V_icmp_ge (pc := 9) C dX12_isOne_9 (tgt := 51) (by decide) (fun q2 => ?_) (fun q2 => ?_)
    · replace hyp := (if_pos q2).symm.trans hyp
      refine V_iconst (pc := 51) C dX12_isOne_51 (v := 1) (by decide) ?_
      cases hyp
      exact V_zret C dX12_isOne_52 rfl
    · replace hyp := (if_neg q2).symm.trans hyp
      refine V_aload_n (pc := 12) C dX12_isOne_12 rfl ?_
      refine V_getR (pc := 13) C dX12_isOne_13 lf_X12_96 fk_103_47 ?_
      refine V_sipush (pc := 16) C dX12_isOne_16 (v := 3072) (by decide) ?_
      refine V_iload_n (pc := 19) C dX12_isOne_19 rfl ?_
      refine V_imul (pc := 20) C dX12_isOne_20 ?_
      refine V_iload_n (pc := 21) C dX12_isOne_21 rfl ?_
      refine V_iadd (pc := 22) C dX12_isOne_22 ?_
      obtain ⟨g3, hyp⟩ := gd_n hyp
      refine V_iald (pc := 23) C dX12_isOne_23 ak_131 g3 ?_
      obtain ⟨r4, h5, eh5, hyp⟩ := bI_n hyp
      refine V_statI (pc := 24) C dX12_isOne_24 lm_X12_363 ms_X12_floorOf (M_X12_floorOf _ eh5) rfl pd_X12_floorOf (by decide) (by decide) (by decide) (As := [.int (h.1 131 (((3072 : Int32) * x1) + x2).toNatClampNeg)]) (rest := []) rfl (Nat.le_of_ble_eq_true rfl) ?_
      refine V_aload_n (pc := 27) C dX12_isOne_27 rfl ?_
      refine V_getR (pc := 28) C dX12_isOne_28 lf_X12_96 fk_103_47 ?_
      refine V_sipush (pc := 31) C dX12_isOne_31 (v := 3072) (by decide) ?_
      refine V_iload_n (pc := 34) C dX12_isOne_34 rfl ?_
      refine V_imul (pc := 35) C dX12_isOne_35 ?_
      obtain ⟨g6, hyp⟩ := gd_n hyp
      refine V_iald (pc := 36) C dX12_isOne_36 ak_131 g6 ?_
      obtain ⟨r7, h8, eh8, hyp⟩ := bI_n hyp
      refine V_statI (pc := 37) C dX12_isOne_37 lm_X12_363 ms_X12_floorOf (M_X12_floorOf _ eh8) rfl pd_X12_floorOf (by decide) (by decide) (by decide) (As := [.int (h5.1 131 ((3072 : Int32) * x1).toNatClampNeg)]) (rest := [.int r4]) rfl (Nat.le_of_ble_eq_true rfl) ?_
      refine V_icmp_eq (pc := 40) C dX12_isOne_40 (tgt := 45) (by decide) (fun q9 => ?_) (fun q9 => ?_)
      · replace hyp := (if_pos q9).symm.trans hyp
        obtain ⟨v10, ev10, hyp⟩ := ib_n hyp
        refine V_iinc (pc := 45) C dX12_isOne_45 (v := v10) rfl (by rw [ev10]; rfl) (by decide) rfl ?_
        refine V_goto (pc := 48) C dX12_isOne_48 (tgt := 2) (by decide) ?_
        refine V_weak (lv' := [some (.ref 103), some (.int x1), some (.int v10)]) (lvle_s (lvle_s (lvle_s lvle_0))) ?_
        exact ih x1 v10 h8 hyp
      · replace hyp := (if_neg q9).symm.trans hyp
        refine V_iconst (pc := 43) C dX12_isOne_43 (v := 0) (by decide) ?_
        cases hyp
        exact V_zret C dX12_isOne_44 rfl
def F_X12_isOne (N : Nat) (a1 : Int32) (h : PH) : Option (Int32 × PH) :=
  F_X12_isOne_b2 N N a1 (1 : Int32) h
set_option maxRecDepth 20000 in
set_option maxHeartbeats 4000000 in
theorem M_X12_isOne (E : EV) {N : Nat} {a1 : Int32} {r : Int32} {h h2 : PH} (hyp : F_X12_isOne N a1 h = some (r, h2)) : MI E 154 yX12_isOne cX12_isOne 3 (some .boolean) 1 20 [.ref 103, .int a1] h r h2 := by
  refine MI.of 1 (by decide) rfl (fun X e1 C => ?_)
  subst e1
  replace C : CX X 154 cX12_isOne 3 RX12 (some .boolean) 1 20 := C
  show V X _ h 0 [some (.ref 103), some (.int a1), none] []
  unfold F_X12_isOne at hyp
  refine V_iconst (pc := 0) C dX12_isOne_0 (v := 1) (by decide) ?_
  refine V_istore_n (pc := 1) C dX12_isOne_1 (by decide) rfl ?_
  refine V_weak (lv' := [some (.ref 103), some (.int a1), some (.int (1 : Int32))]) (lvle_s (lvle_s (lvle_s lvle_0))) ?_
  exact (T_X12_isOne_b2 C) N a1 (1 : Int32) h hyp
theorem dX12_cars_0 : decode cX12_cars 0 = .ok (.aload_n 0, 1) := by decide +kernel
theorem dX12_cars_1 : decode cX12_cars 1 = .ok (.iconst 0, 1) := by decide +kernel
theorem dX12_cars_2 : decode cX12_cars 2 = .ok (.putfield 180, 3) := by decide +kernel
theorem dX12_cars_5 : decode cX12_cars 5 = .ok (.iload_n 1, 1) := by decide +kernel
theorem dX12_cars_6 : decode cX12_cars 6 = .ok (.iconst 1, 1) := by decide +kernel
theorem dX12_cars_7 : decode cX12_cars 7 = .ok (.iconst 2, 1) := by decide +kernel
theorem dX12_cars_8 : decode cX12_cars 8 = .ok (.invokestatic 183, 3) := by decide +kernel
theorem dX12_cars_11 : decode cX12_cars 11 = .ok (.ifCond .eq 32, 3) := by decide +kernel
theorem dX12_cars_14 : decode cX12_cars 14 = .ok (.iload_n 2, 1) := by decide +kernel
theorem dX12_cars_15 : decode cX12_cars 15 = .ok (.iconst 1, 1) := by decide +kernel
theorem dX12_cars_16 : decode cX12_cars 16 = .ok (.bipush 8, 2) := by decide +kernel
theorem dX12_cars_18 : decode cX12_cars 18 = .ok (.invokestatic 183, 3) := by decide +kernel
theorem dX12_cars_21 : decode cX12_cars 21 = .ok (.ifCond .eq 22, 3) := by decide +kernel
theorem dX12_cars_24 : decode cX12_cars 24 = .ok (.iload_n 3, 1) := by decide +kernel
theorem dX12_cars_25 : decode cX12_cars 25 = .ok (.iconst 0, 1) := by decide +kernel
theorem dX12_cars_26 : decode cX12_cars 26 = .ok (.bipush 9, 2) := by decide +kernel
theorem dX12_cars_28 : decode cX12_cars 28 = .ok (.invokestatic 183, 3) := by decide +kernel
theorem dX12_cars_31 : decode cX12_cars 31 = .ok (.ifCond .eq 12, 3) := by decide +kernel
theorem dX12_cars_34 : decode cX12_cars 34 = .ok (.aload_n 0, 1) := by decide +kernel
theorem dX12_cars_35 : decode cX12_cars 35 = .ok (.iload 4, 2) := by decide +kernel
theorem dX12_cars_37 : decode cX12_cars 37 = .ok (.invokevirtual 376, 3) := by decide +kernel
theorem dX12_cars_40 : decode cX12_cars 40 = .ok (.ifCond .ne 5, 3) := by decide +kernel
theorem dX12_cars_43 : decode cX12_cars 43 = .ok (.iconst 0, 1) := by decide +kernel
theorem dX12_cars_44 : decode cX12_cars 44 = .ok (.ireturn, 1) := by decide +kernel
theorem dX12_cars_45 : decode cX12_cars 45 = .ok (.aload_n 0, 1) := by decide +kernel
theorem dX12_cars_46 : decode cX12_cars 46 = .ok (.iload_n 1, 1) := by decide +kernel
theorem dX12_cars_47 : decode cX12_cars 47 = .ok (.putfield 111, 3) := by decide +kernel
theorem dX12_cars_50 : decode cX12_cars 50 = .ok (.aload_n 0, 1) := by decide +kernel
theorem dX12_cars_51 : decode cX12_cars 51 = .ok (.iload_n 2, 1) := by decide +kernel
theorem dX12_cars_52 : decode cX12_cars 52 = .ok (.putfield 114, 3) := by decide +kernel
theorem dX12_cars_55 : decode cX12_cars 55 = .ok (.aload_n 0, 1) := by decide +kernel
theorem dX12_cars_56 : decode cX12_cars 56 = .ok (.iload_n 3, 1) := by decide +kernel
theorem dX12_cars_57 : decode cX12_cars 57 = .ok (.putfield 117, 3) := by decide +kernel
theorem dX12_cars_60 : decode cX12_cars 60 = .ok (.aload_n 0, 1) := by decide +kernel
theorem dX12_cars_61 : decode cX12_cars 61 = .ok (.iload 4, 2) := by decide +kernel
theorem dX12_cars_63 : decode cX12_cars 63 = .ok (.putfield 200, 3) := by decide +kernel
theorem dX12_cars_66 : decode cX12_cars 66 = .ok (.iconst 1, 1) := by decide +kernel
theorem dX12_cars_67 : decode cX12_cars 67 = .ok (.ireturn, 1) := by decide +kernel
def F_X12_cars (a1 : Int32) (a2 : Int32) (a3 : Int32) (a4 : Int32) (h : PH) : Option (Int32 × PH) :=
  hb (hs h 103 0 (0 : Int32)) fun h1 =>
  bI (F_X12_within a1 (1 : Int32) (2 : Int32) h1) fun r2 h3 =>
  if r2 = 0 then
    some ((0 : Int32), h3)
  else
    bI (F_X12_within a2 (1 : Int32) (8 : Int32) h3) fun r5 h6 =>
    if r5 = 0 then
      some ((0 : Int32), h6)
    else
      bI (F_X12_within a3 (0 : Int32) (9 : Int32) h6) fun r8 h9 =>
      if r8 = 0 then
        some ((0 : Int32), h9)
      else
        bI (F_X12_isFloor a4 h9) fun r11 h12 =>
        if r11 = 0 then
          some ((0 : Int32), h12)
        else
          hb (hs h12 103 53 a1) fun h14 =>
          hb (hs h14 103 54 a2) fun h15 =>
          hb (hs h15 103 55 a3) fun h16 =>
          hb (hs h16 103 56 a4) fun h17 =>
          some ((1 : Int32), h17)
set_option maxRecDepth 20000 in
set_option maxHeartbeats 4000000 in
theorem M_X12_cars (E : EV) {a1 : Int32} {a2 : Int32} {a3 : Int32} {a4 : Int32} {r : Int32} {h h2 : PH} (hyp : F_X12_cars a1 a2 a3 a4 h = some (r, h2)) : MI E 154 yX12_cars cX12_cars 5 (some .boolean) 1 22 [.ref 103, .int a1, .int a2, .int a3, .int a4] h r h2 := by
  refine MI.of 0 (by decide) rfl (fun X e1 C => ?_)
  subst e1
  replace C : CX X 154 cX12_cars 5 RX12 (some .boolean) 1 22 := C
  show V X _ h 0 [some (.ref 103), some (.int a1), some (.int a2), some (.int a3), some (.int a4)] []
  unfold F_X12_cars at hyp
  refine V_aload_n (pc := 0) C dX12_cars_0 rfl ?_
  refine V_iconst (pc := 1) C dX12_cars_1 (v := 0) (by decide) ?_
  obtain ⟨h1, eh1, hyp⟩ := hb_n hyp
  refine V_putI (pc := 2) C dX12_cars_2 lf_X12_180 fk_103_0 rfl rfl eh1 ?_
  refine V_iload_n (pc := 5) C dX12_cars_5 rfl ?_
  refine V_iconst (pc := 6) C dX12_cars_6 (v := 1) (by decide) ?_
  refine V_iconst (pc := 7) C dX12_cars_7 (v := 2) (by decide) ?_
  obtain ⟨r2, h3, eh3, hyp⟩ := bI_n hyp
  refine V_statI (pc := 8) C dX12_cars_8 lm_X12_183 ms_X12_within (M_X12_within _ eh3) rfl pd_X12_within (by decide) (by decide) (by decide) (As := [.int a1, .int (1 : Int32), .int (2 : Int32)]) (rest := []) rfl (Nat.le_of_ble_eq_true rfl) ?_
  refine V_if_eq (pc := 11) C dX12_cars_11 (tgt := 43) (by decide) (fun q4 => ?_) (fun q4 => ?_)
  · replace hyp := (if_pos q4).symm.trans hyp
    refine V_iconst (pc := 43) C dX12_cars_43 (v := 0) (by decide) ?_
    cases hyp
    exact V_zret C dX12_cars_44 rfl
  · replace hyp := (if_neg q4).symm.trans hyp
    refine V_iload_n (pc := 14) C dX12_cars_14 rfl ?_
    refine V_iconst (pc := 15) C dX12_cars_15 (v := 1) (by decide) ?_
    refine V_bipush (pc := 16) C dX12_cars_16 (v := 8) (by decide) ?_
    obtain ⟨r5, h6, eh6, hyp⟩ := bI_n hyp
    refine V_statI (pc := 18) C dX12_cars_18 lm_X12_183 ms_X12_within (M_X12_within _ eh6) rfl pd_X12_within (by decide) (by decide) (by decide) (As := [.int a2, .int (1 : Int32), .int (8 : Int32)]) (rest := []) rfl (Nat.le_of_ble_eq_true rfl) ?_
    refine V_if_eq (pc := 21) C dX12_cars_21 (tgt := 43) (by decide) (fun q7 => ?_) (fun q7 => ?_)
    · replace hyp := (if_pos q7).symm.trans hyp
      refine V_iconst (pc := 43) C dX12_cars_43 (v := 0) (by decide) ?_
      cases hyp
      exact V_zret C dX12_cars_44 rfl
    · replace hyp := (if_neg q7).symm.trans hyp
      refine V_iload_n (pc := 24) C dX12_cars_24 rfl ?_
      refine V_iconst (pc := 25) C dX12_cars_25 (v := 0) (by decide) ?_
      refine V_bipush (pc := 26) C dX12_cars_26 (v := 9) (by decide) ?_
      obtain ⟨r8, h9, eh9, hyp⟩ := bI_n hyp
      refine V_statI (pc := 28) C dX12_cars_28 lm_X12_183 ms_X12_within (M_X12_within _ eh9) rfl pd_X12_within (by decide) (by decide) (by decide) (As := [.int a3, .int (0 : Int32), .int (9 : Int32)]) (rest := []) rfl (Nat.le_of_ble_eq_true rfl) ?_
      refine V_if_eq (pc := 31) C dX12_cars_31 (tgt := 43) (by decide) (fun q10 => ?_) (fun q10 => ?_)
      · replace hyp := (if_pos q10).symm.trans hyp
        refine V_iconst (pc := 43) C dX12_cars_43 (v := 0) (by decide) ?_
        cases hyp
        exact V_zret C dX12_cars_44 rfl
      · replace hyp := (if_neg q10).symm.trans hyp
        refine V_aload_n (pc := 34) C dX12_cars_34 rfl ?_
        refine V_iload (pc := 35) C dX12_cars_35 rfl ?_
        obtain ⟨r11, h12, eh12, hyp⟩ := bI_n hyp
        refine V_callI (pc := 37) C dX12_cars_37 lm_X12_376 mk_X12_isFloor ok_103 rfl (M_X12_isFloor _ eh12) rfl pd_X12_isFloor (by decide) (by decide) (by decide) (As := [.int a4]) (rest := []) rfl (Nat.le_of_ble_eq_true rfl) ?_
        refine V_if_ne (pc := 40) C dX12_cars_40 (tgt := 45) (by decide) (fun q13 => ?_) (fun q13 => ?_)
        · replace hyp := (if_neg q13).symm.trans hyp
          refine V_aload_n (pc := 45) C dX12_cars_45 rfl ?_
          refine V_iload_n (pc := 46) C dX12_cars_46 rfl ?_
          obtain ⟨h14, eh14, hyp⟩ := hb_n hyp
          refine V_putI (pc := 47) C dX12_cars_47 lf_X12_111 fk_103_53 rfl rfl eh14 ?_
          refine V_aload_n (pc := 50) C dX12_cars_50 rfl ?_
          refine V_iload_n (pc := 51) C dX12_cars_51 rfl ?_
          obtain ⟨h15, eh15, hyp⟩ := hb_n hyp
          refine V_putI (pc := 52) C dX12_cars_52 lf_X12_114 fk_103_54 rfl rfl eh15 ?_
          refine V_aload_n (pc := 55) C dX12_cars_55 rfl ?_
          refine V_iload_n (pc := 56) C dX12_cars_56 rfl ?_
          obtain ⟨h16, eh16, hyp⟩ := hb_n hyp
          refine V_putI (pc := 57) C dX12_cars_57 lf_X12_117 fk_103_55 rfl rfl eh16 ?_
          refine V_aload_n (pc := 60) C dX12_cars_60 rfl ?_
          refine V_iload (pc := 61) C dX12_cars_61 rfl ?_
          obtain ⟨h17, eh17, hyp⟩ := hb_n hyp
          refine V_putI (pc := 63) C dX12_cars_63 lf_X12_200 fk_103_56 rfl rfl eh17 ?_
          refine V_iconst (pc := 66) C dX12_cars_66 (v := 1) (by decide) ?_
          cases hyp
          exact V_zret C dX12_cars_67 rfl
        · replace hyp := (if_pos q13).symm.trans hyp
          refine V_iconst (pc := 43) C dX12_cars_43 (v := 0) (by decide) ?_
          cases hyp
          exact V_zret C dX12_cars_44 rfl
theorem dX12_person_0 : decode cX12_person 0 = .ok (.aload_n 0, 1) := by decide +kernel
theorem dX12_person_1 : decode cX12_person 1 = .ok (.iconst 0, 1) := by decide +kernel
theorem dX12_person_2 : decode cX12_person 2 = .ok (.putfield 180, 3) := by decide +kernel
theorem dX12_person_5 : decode cX12_person 5 = .ok (.iload_n 1, 1) := by decide +kernel
theorem dX12_person_6 : decode cX12_person 6 = .ok (.iconst 0, 1) := by decide +kernel
theorem dX12_person_7 : decode cX12_person 7 = .ok (.sipush 300, 3) := by decide +kernel
theorem dX12_person_10 : decode cX12_person 10 = .ok (.invokestatic 183, 3) := by decide +kernel
theorem dX12_person_13 : decode cX12_person 13 = .ok (.ifCond .eq 33, 3) := by decide +kernel
theorem dX12_person_16 : decode cX12_person 16 = .ok (.aload_n 0, 1) := by decide +kernel
theorem dX12_person_17 : decode cX12_person 17 = .ok (.iload_n 2, 1) := by decide +kernel
theorem dX12_person_18 : decode cX12_person 18 = .ok (.invokevirtual 376, 3) := by decide +kernel
theorem dX12_person_21 : decode cX12_person 21 = .ok (.ifCond .eq 25, 3) := by decide +kernel
theorem dX12_person_24 : decode cX12_person 24 = .ok (.aload_n 0, 1) := by decide +kernel
theorem dX12_person_25 : decode cX12_person 25 = .ok (.iload_n 3, 1) := by decide +kernel
theorem dX12_person_26 : decode cX12_person 26 = .ok (.invokevirtual 376, 3) := by decide +kernel
theorem dX12_person_29 : decode cX12_person 29 = .ok (.ifCond .eq 17, 3) := by decide +kernel
theorem dX12_person_32 : decode cX12_person 32 = .ok (.iload_n 2, 1) := by decide +kernel
theorem dX12_person_33 : decode cX12_person 33 = .ok (.iload_n 3, 1) := by decide +kernel
theorem dX12_person_34 : decode cX12_person 34 = .ok (.if_icmp .eq 12, 3) := by decide +kernel
theorem dX12_person_37 : decode cX12_person 37 = .ok (.aload_n 0, 1) := by decide +kernel
theorem dX12_person_38 : decode cX12_person 38 = .ok (.getfield 424, 3) := by decide +kernel
theorem dX12_person_41 : decode cX12_person 41 = .ok (.bipush 24, 2) := by decide +kernel
theorem dX12_person_43 : decode cX12_person 43 = .ok (.if_icmp .ne 5, 3) := by decide +kernel
theorem dX12_person_46 : decode cX12_person 46 = .ok (.iconst (-1), 1) := by decide +kernel
theorem dX12_person_47 : decode cX12_person 47 = .ok (.ireturn, 1) := by decide +kernel
theorem dX12_person_48 : decode cX12_person 48 = .ok (.aload_n 0, 1) := by decide +kernel
theorem dX12_person_49 : decode cX12_person 49 = .ok (.getfield 120, 3) := by decide +kernel
theorem dX12_person_52 : decode cX12_person 52 = .ok (.aload_n 0, 1) := by decide +kernel
theorem dX12_person_53 : decode cX12_person 53 = .ok (.getfield 424, 3) := by decide +kernel
theorem dX12_person_56 : decode cX12_person 56 = .ok (.iload_n 1, 1) := by decide +kernel
theorem dX12_person_57 : decode cX12_person 57 = .ok (.iastore, 1) := by decide +kernel
theorem dX12_person_58 : decode cX12_person 58 = .ok (.aload_n 0, 1) := by decide +kernel
theorem dX12_person_59 : decode cX12_person 59 = .ok (.getfield 123, 3) := by decide +kernel
theorem dX12_person_62 : decode cX12_person 62 = .ok (.aload_n 0, 1) := by decide +kernel
theorem dX12_person_63 : decode cX12_person 63 = .ok (.getfield 424, 3) := by decide +kernel
theorem dX12_person_66 : decode cX12_person 66 = .ok (.iload_n 2, 1) := by decide +kernel
theorem dX12_person_67 : decode cX12_person 67 = .ok (.iastore, 1) := by decide +kernel
theorem dX12_person_68 : decode cX12_person 68 = .ok (.aload_n 0, 1) := by decide +kernel
theorem dX12_person_69 : decode cX12_person 69 = .ok (.getfield 126, 3) := by decide +kernel
theorem dX12_person_72 : decode cX12_person 72 = .ok (.aload_n 0, 1) := by decide +kernel
theorem dX12_person_73 : decode cX12_person 73 = .ok (.getfield 424, 3) := by decide +kernel
theorem dX12_person_76 : decode cX12_person 76 = .ok (.iload_n 3, 1) := by decide +kernel
theorem dX12_person_77 : decode cX12_person 77 = .ok (.iastore, 1) := by decide +kernel
theorem dX12_person_78 : decode cX12_person 78 = .ok (.aload_n 0, 1) := by decide +kernel
theorem dX12_person_79 : decode cX12_person 79 = .ok (.dup, 1) := by decide +kernel
theorem dX12_person_80 : decode cX12_person 80 = .ok (.getfield 424, 3) := by decide +kernel
theorem dX12_person_83 : decode cX12_person 83 = .ok (.iconst 1, 1) := by decide +kernel
theorem dX12_person_84 : decode cX12_person 84 = .ok (.iadd, 1) := by decide +kernel
theorem dX12_person_85 : decode cX12_person 85 = .ok (.putfield 424, 3) := by decide +kernel
theorem dX12_person_88 : decode cX12_person 88 = .ok (.aload_n 0, 1) := by decide +kernel
theorem dX12_person_89 : decode cX12_person 89 = .ok (.getfield 424, 3) := by decide +kernel
theorem dX12_person_92 : decode cX12_person 92 = .ok (.iconst 1, 1) := by decide +kernel
theorem dX12_person_93 : decode cX12_person 93 = .ok (.isub, 1) := by decide +kernel
theorem dX12_person_94 : decode cX12_person 94 = .ok (.ireturn, 1) := by decide +kernel
def F_X12_person (a1 : Int32) (a2 : Int32) (a3 : Int32) (h : PH) : Option (Int32 × PH) :=
  hb (hs h 103 0 (0 : Int32)) fun h1 =>
  bI (F_X12_within a1 (0 : Int32) (300 : Int32) h1) fun r2 h3 =>
  if r2 = 0 then
    some ((-1 : Int32), h3)
  else
    bI (F_X12_isFloor a2 h3) fun r5 h6 =>
    if r5 = 0 then
      some ((-1 : Int32), h6)
    else
      bI (F_X12_isFloor a3 h6) fun r8 h9 =>
      if r8 = 0 then
        some ((-1 : Int32), h9)
      else
        if a2 = a3 then
          some ((-1 : Int32), h9)
        else
          if (h9.1 103 57) = (24 : Int32) then
            some ((-1 : Int32), h9)
          else
            if inb (h9.1 103 57) 24 = true then
            hb (hs h9 136 (h9.1 103 57).toNatClampNeg a1) fun h14 =>
            if inb (h14.1 103 57) 24 = true then
            hb (hs h14 137 (h14.1 103 57).toNatClampNeg a2) fun h16 =>
            if inb (h16.1 103 57) 24 = true then
            hb (hs h16 138 (h16.1 103 57).toNatClampNeg a3) fun h18 =>
            hb (hs h18 103 57 ((h18.1 103 57) + (1 : Int32))) fun h19 =>
            some ((h19.1 103 57) - (1 : Int32), h19)
            else none
            else none
            else none
set_option maxRecDepth 20000 in
set_option maxHeartbeats 4000000 in
theorem M_X12_person (E : EV) {a1 : Int32} {a2 : Int32} {a3 : Int32} {r : Int32} {h h2 : PH} (hyp : F_X12_person a1 a2 a3 h = some (r, h2)) : MI E 154 yX12_person cX12_person 4 (some .int) 1 22 [.ref 103, .int a1, .int a2, .int a3] h r h2 := by
  refine MI.of 0 (by decide) rfl (fun X e1 C => ?_)
  subst e1
  replace C : CX X 154 cX12_person 4 RX12 (some .int) 1 22 := C
  show V X _ h 0 [some (.ref 103), some (.int a1), some (.int a2), some (.int a3)] []
  unfold F_X12_person at hyp
  refine V_aload_n (pc := 0) C dX12_person_0 rfl ?_
  refine V_iconst (pc := 1) C dX12_person_1 (v := 0) (by decide) ?_
  obtain ⟨h1, eh1, hyp⟩ := hb_n hyp
  refine V_putI (pc := 2) C dX12_person_2 lf_X12_180 fk_103_0 rfl rfl eh1 ?_
  refine V_iload_n (pc := 5) C dX12_person_5 rfl ?_
  refine V_iconst (pc := 6) C dX12_person_6 (v := 0) (by decide) ?_
  refine V_sipush (pc := 7) C dX12_person_7 (v := 300) (by decide) ?_
  obtain ⟨r2, h3, eh3, hyp⟩ := bI_n hyp
  refine V_statI (pc := 10) C dX12_person_10 lm_X12_183 ms_X12_within (M_X12_within _ eh3) rfl pd_X12_within (by decide) (by decide) (by decide) (As := [.int a1, .int (0 : Int32), .int (300 : Int32)]) (rest := []) rfl (Nat.le_of_ble_eq_true rfl) ?_
  refine V_if_eq (pc := 13) C dX12_person_13 (tgt := 46) (by decide) (fun q4 => ?_) (fun q4 => ?_)
  · replace hyp := (if_pos q4).symm.trans hyp
    refine V_iconst (pc := 46) C dX12_person_46 (v := -1) (by decide) ?_
    cases hyp
    exact V_iret C dX12_person_47
  · replace hyp := (if_neg q4).symm.trans hyp
    refine V_aload_n (pc := 16) C dX12_person_16 rfl ?_
    refine V_iload_n (pc := 17) C dX12_person_17 rfl ?_
    obtain ⟨r5, h6, eh6, hyp⟩ := bI_n hyp
    refine V_callI (pc := 18) C dX12_person_18 lm_X12_376 mk_X12_isFloor ok_103 rfl (M_X12_isFloor _ eh6) rfl pd_X12_isFloor (by decide) (by decide) (by decide) (As := [.int a2]) (rest := []) rfl (Nat.le_of_ble_eq_true rfl) ?_
    refine V_if_eq (pc := 21) C dX12_person_21 (tgt := 46) (by decide) (fun q7 => ?_) (fun q7 => ?_)
    · replace hyp := (if_pos q7).symm.trans hyp
      refine V_iconst (pc := 46) C dX12_person_46 (v := -1) (by decide) ?_
      cases hyp
      exact V_iret C dX12_person_47
    · replace hyp := (if_neg q7).symm.trans hyp
      refine V_aload_n (pc := 24) C dX12_person_24 rfl ?_
      refine V_iload_n (pc := 25) C dX12_person_25 rfl ?_
      obtain ⟨r8, h9, eh9, hyp⟩ := bI_n hyp
      refine V_callI (pc := 26) C dX12_person_26 lm_X12_376 mk_X12_isFloor ok_103 rfl (M_X12_isFloor _ eh9) rfl pd_X12_isFloor (by decide) (by decide) (by decide) (As := [.int a3]) (rest := []) rfl (Nat.le_of_ble_eq_true rfl) ?_
      refine V_if_eq (pc := 29) C dX12_person_29 (tgt := 46) (by decide) (fun q10 => ?_) (fun q10 => ?_)
      · replace hyp := (if_pos q10).symm.trans hyp
        refine V_iconst (pc := 46) C dX12_person_46 (v := -1) (by decide) ?_
        cases hyp
        exact V_iret C dX12_person_47
      · replace hyp := (if_neg q10).symm.trans hyp
        refine V_iload_n (pc := 32) C dX12_person_32 rfl ?_
        refine V_iload_n (pc := 33) C dX12_person_33 rfl ?_
        refine V_icmp_eq (pc := 34) C dX12_person_34 (tgt := 46) (by decide) (fun q11 => ?_) (fun q11 => ?_)
        · replace hyp := (if_pos q11).symm.trans hyp
          refine V_iconst (pc := 46) C dX12_person_46 (v := -1) (by decide) ?_
          cases hyp
          exact V_iret C dX12_person_47
        · replace hyp := (if_neg q11).symm.trans hyp
          refine V_aload_n (pc := 37) C dX12_person_37 rfl ?_
          refine V_getI (pc := 38) C dX12_person_38 lf_X12_424 fk_103_57 ?_
          refine V_bipush (pc := 41) C dX12_person_41 (v := 24) (by decide) ?_
          refine V_icmp_ne (pc := 43) C dX12_person_43 (tgt := 48) (by decide) (fun q12 => ?_) (fun q12 => ?_)
          · replace hyp := (if_neg q12).symm.trans hyp
            refine V_aload_n (pc := 48) C dX12_person_48 rfl ?_
            refine V_getR (pc := 49) C dX12_person_49 lf_X12_120 fk_103_58 ?_
            refine V_aload_n (pc := 52) C dX12_person_52 rfl ?_
            refine V_getI (pc := 53) C dX12_person_53 lf_X12_424 fk_103_57 ?_
            refine V_iload_n (pc := 56) C dX12_person_56 rfl ?_
            obtain ⟨g13, hyp⟩ := gd_n hyp
            obtain ⟨h14, eh14, hyp⟩ := hb_n hyp
            refine V_iast (pc := 57) C dX12_person_57 ak_136 g13 eh14 ?_
            refine V_aload_n (pc := 58) C dX12_person_58 rfl ?_
            refine V_getR (pc := 59) C dX12_person_59 lf_X12_123 fk_103_59 ?_
            refine V_aload_n (pc := 62) C dX12_person_62 rfl ?_
            refine V_getI (pc := 63) C dX12_person_63 lf_X12_424 fk_103_57 ?_
            refine V_iload_n (pc := 66) C dX12_person_66 rfl ?_
            obtain ⟨g15, hyp⟩ := gd_n hyp
            obtain ⟨h16, eh16, hyp⟩ := hb_n hyp
            refine V_iast (pc := 67) C dX12_person_67 ak_137 g15 eh16 ?_
            refine V_aload_n (pc := 68) C dX12_person_68 rfl ?_
            refine V_getR (pc := 69) C dX12_person_69 lf_X12_126 fk_103_60 ?_
            refine V_aload_n (pc := 72) C dX12_person_72 rfl ?_
            refine V_getI (pc := 73) C dX12_person_73 lf_X12_424 fk_103_57 ?_
            refine V_iload_n (pc := 76) C dX12_person_76 rfl ?_
            obtain ⟨g17, hyp⟩ := gd_n hyp
            obtain ⟨h18, eh18, hyp⟩ := hb_n hyp
            refine V_iast (pc := 77) C dX12_person_77 ak_138 g17 eh18 ?_
            refine V_aload_n (pc := 78) C dX12_person_78 rfl ?_
            refine V_dup (pc := 79) C dX12_person_79 rfl ?_
            refine V_getI (pc := 80) C dX12_person_80 lf_X12_424 fk_103_57 ?_
            refine V_iconst (pc := 83) C dX12_person_83 (v := 1) (by decide) ?_
            refine V_iadd (pc := 84) C dX12_person_84 ?_
            obtain ⟨h19, eh19, hyp⟩ := hb_n hyp
            refine V_putI (pc := 85) C dX12_person_85 lf_X12_424 fk_103_57 rfl rfl eh19 ?_
            refine V_aload_n (pc := 88) C dX12_person_88 rfl ?_
            refine V_getI (pc := 89) C dX12_person_89 lf_X12_424 fk_103_57 ?_
            refine V_iconst (pc := 92) C dX12_person_92 (v := 1) (by decide) ?_
            refine V_isub (pc := 93) C dX12_person_93 ?_
            cases hyp
            exact V_iret C dX12_person_94
          · replace hyp := (if_pos q12).symm.trans hyp
            refine V_iconst (pc := 46) C dX12_person_46 (v := -1) (by decide) ?_
            cases hyp
            exact V_iret C dX12_person_47
theorem dX12_hold_0 : decode cX12_hold 0 = .ok (.aload_n 0, 1) := by decide +kernel
theorem dX12_hold_1 : decode cX12_hold 1 = .ok (.iconst 0, 1) := by decide +kernel
theorem dX12_hold_2 : decode cX12_hold 2 = .ok (.putfield 180, 3) := by decide +kernel
theorem dX12_hold_5 : decode cX12_hold 5 = .ok (.iload_n 1, 1) := by decide +kernel
theorem dX12_hold_6 : decode cX12_hold 6 = .ok (.iconst 0, 1) := by decide +kernel
theorem dX12_hold_7 : decode cX12_hold 7 = .ok (.sipush 899, 3) := by decide +kernel
theorem dX12_hold_10 : decode cX12_hold 10 = .ok (.invokestatic 183, 3) := by decide +kernel
theorem dX12_hold_13 : decode cX12_hold 13 = .ok (.ifCond .eq 31, 3) := by decide +kernel
theorem dX12_hold_16 : decode cX12_hold 16 = .ok (.iload_n 2, 1) := by decide +kernel
theorem dX12_hold_17 : decode cX12_hold 17 = .ok (.iconst 0, 1) := by decide +kernel
theorem dX12_hold_18 : decode cX12_hold 18 = .ok (.iconst 1, 1) := by decide +kernel
theorem dX12_hold_19 : decode cX12_hold 19 = .ok (.invokestatic 183, 3) := by decide +kernel
theorem dX12_hold_22 : decode cX12_hold 22 = .ok (.ifCond .eq 22, 3) := by decide +kernel
theorem dX12_hold_25 : decode cX12_hold 25 = .ok (.iload_n 3, 1) := by decide +kernel
theorem dX12_hold_26 : decode cX12_hold 26 = .ok (.iconst 1, 1) := by decide +kernel
theorem dX12_hold_27 : decode cX12_hold 27 = .ok (.bipush 60, 2) := by decide +kernel
theorem dX12_hold_29 : decode cX12_hold 29 = .ok (.invokestatic 183, 3) := by decide +kernel
theorem dX12_hold_32 : decode cX12_hold 32 = .ok (.ifCond .eq 12, 3) := by decide +kernel
theorem dX12_hold_35 : decode cX12_hold 35 = .ok (.aload_n 0, 1) := by decide +kernel
theorem dX12_hold_36 : decode cX12_hold 36 = .ok (.getfield 427, 3) := by decide +kernel
theorem dX12_hold_39 : decode cX12_hold 39 = .ok (.bipush 8, 2) := by decide +kernel
theorem dX12_hold_41 : decode cX12_hold 41 = .ok (.if_icmp .ne 5, 3) := by decide +kernel
theorem dX12_hold_44 : decode cX12_hold 44 = .ok (.iconst 0, 1) := by decide +kernel
theorem dX12_hold_45 : decode cX12_hold 45 = .ok (.ireturn, 1) := by decide +kernel
theorem dX12_hold_46 : decode cX12_hold 46 = .ok (.aload_n 0, 1) := by decide +kernel
theorem dX12_hold_47 : decode cX12_hold 47 = .ok (.getfield 129, 3) := by decide +kernel
theorem dX12_hold_50 : decode cX12_hold 50 = .ok (.aload_n 0, 1) := by decide +kernel
theorem dX12_hold_51 : decode cX12_hold 51 = .ok (.getfield 427, 3) := by decide +kernel
theorem dX12_hold_54 : decode cX12_hold 54 = .ok (.iload_n 1, 1) := by decide +kernel
theorem dX12_hold_55 : decode cX12_hold 55 = .ok (.iastore, 1) := by decide +kernel
theorem dX12_hold_56 : decode cX12_hold 56 = .ok (.aload_n 0, 1) := by decide +kernel
theorem dX12_hold_57 : decode cX12_hold 57 = .ok (.getfield 132, 3) := by decide +kernel
theorem dX12_hold_60 : decode cX12_hold 60 = .ok (.aload_n 0, 1) := by decide +kernel
theorem dX12_hold_61 : decode cX12_hold 61 = .ok (.getfield 427, 3) := by decide +kernel
theorem dX12_hold_64 : decode cX12_hold 64 = .ok (.iload_n 2, 1) := by decide +kernel
theorem dX12_hold_65 : decode cX12_hold 65 = .ok (.iastore, 1) := by decide +kernel
theorem dX12_hold_66 : decode cX12_hold 66 = .ok (.aload_n 0, 1) := by decide +kernel
theorem dX12_hold_67 : decode cX12_hold 67 = .ok (.getfield 135, 3) := by decide +kernel
theorem dX12_hold_70 : decode cX12_hold 70 = .ok (.aload_n 0, 1) := by decide +kernel
theorem dX12_hold_71 : decode cX12_hold 71 = .ok (.getfield 427, 3) := by decide +kernel
theorem dX12_hold_74 : decode cX12_hold 74 = .ok (.iload_n 3, 1) := by decide +kernel
theorem dX12_hold_75 : decode cX12_hold 75 = .ok (.iastore, 1) := by decide +kernel
theorem dX12_hold_76 : decode cX12_hold 76 = .ok (.aload_n 0, 1) := by decide +kernel
theorem dX12_hold_77 : decode cX12_hold 77 = .ok (.dup, 1) := by decide +kernel
theorem dX12_hold_78 : decode cX12_hold 78 = .ok (.getfield 427, 3) := by decide +kernel
theorem dX12_hold_81 : decode cX12_hold 81 = .ok (.iconst 1, 1) := by decide +kernel
theorem dX12_hold_82 : decode cX12_hold 82 = .ok (.iadd, 1) := by decide +kernel
theorem dX12_hold_83 : decode cX12_hold 83 = .ok (.putfield 427, 3) := by decide +kernel
theorem dX12_hold_86 : decode cX12_hold 86 = .ok (.iconst 1, 1) := by decide +kernel
theorem dX12_hold_87 : decode cX12_hold 87 = .ok (.ireturn, 1) := by decide +kernel
def F_X12_hold (a1 : Int32) (a2 : Int32) (a3 : Int32) (h : PH) : Option (Int32 × PH) :=
  hb (hs h 103 0 (0 : Int32)) fun h1 =>
  bI (F_X12_within a1 (0 : Int32) (899 : Int32) h1) fun r2 h3 =>
  if r2 = 0 then
    some ((0 : Int32), h3)
  else
    bI (F_X12_within a2 (0 : Int32) (1 : Int32) h3) fun r5 h6 =>
    if r5 = 0 then
      some ((0 : Int32), h6)
    else
      bI (F_X12_within a3 (1 : Int32) (60 : Int32) h6) fun r8 h9 =>
      if r8 = 0 then
        some ((0 : Int32), h9)
      else
        if (h9.1 103 61) = (8 : Int32) then
          some ((0 : Int32), h9)
        else
          if inb (h9.1 103 61) 8 = true then
          hb (hs h9 139 (h9.1 103 61).toNatClampNeg a1) fun h13 =>
          if inb (h13.1 103 61) 8 = true then
          hb (hs h13 140 (h13.1 103 61).toNatClampNeg a2) fun h15 =>
          if inb (h15.1 103 61) 8 = true then
          hb (hs h15 141 (h15.1 103 61).toNatClampNeg a3) fun h17 =>
          hb (hs h17 103 61 ((h17.1 103 61) + (1 : Int32))) fun h18 =>
          some ((1 : Int32), h18)
          else none
          else none
          else none
set_option maxRecDepth 20000 in
set_option maxHeartbeats 4000000 in
theorem M_X12_hold (E : EV) {a1 : Int32} {a2 : Int32} {a3 : Int32} {r : Int32} {h h2 : PH} (hyp : F_X12_hold a1 a2 a3 h = some (r, h2)) : MI E 154 yX12_hold cX12_hold 4 (some .boolean) 1 22 [.ref 103, .int a1, .int a2, .int a3] h r h2 := by
  refine MI.of 0 (by decide) rfl (fun X e1 C => ?_)
  subst e1
  replace C : CX X 154 cX12_hold 4 RX12 (some .boolean) 1 22 := C
  show V X _ h 0 [some (.ref 103), some (.int a1), some (.int a2), some (.int a3)] []
  unfold F_X12_hold at hyp
  refine V_aload_n (pc := 0) C dX12_hold_0 rfl ?_
  refine V_iconst (pc := 1) C dX12_hold_1 (v := 0) (by decide) ?_
  obtain ⟨h1, eh1, hyp⟩ := hb_n hyp
  refine V_putI (pc := 2) C dX12_hold_2 lf_X12_180 fk_103_0 rfl rfl eh1 ?_
  refine V_iload_n (pc := 5) C dX12_hold_5 rfl ?_
  refine V_iconst (pc := 6) C dX12_hold_6 (v := 0) (by decide) ?_
  refine V_sipush (pc := 7) C dX12_hold_7 (v := 899) (by decide) ?_
  obtain ⟨r2, h3, eh3, hyp⟩ := bI_n hyp
  refine V_statI (pc := 10) C dX12_hold_10 lm_X12_183 ms_X12_within (M_X12_within _ eh3) rfl pd_X12_within (by decide) (by decide) (by decide) (As := [.int a1, .int (0 : Int32), .int (899 : Int32)]) (rest := []) rfl (Nat.le_of_ble_eq_true rfl) ?_
  refine V_if_eq (pc := 13) C dX12_hold_13 (tgt := 44) (by decide) (fun q4 => ?_) (fun q4 => ?_)
  · replace hyp := (if_pos q4).symm.trans hyp
    refine V_iconst (pc := 44) C dX12_hold_44 (v := 0) (by decide) ?_
    cases hyp
    exact V_zret C dX12_hold_45 rfl
  · replace hyp := (if_neg q4).symm.trans hyp
    refine V_iload_n (pc := 16) C dX12_hold_16 rfl ?_
    refine V_iconst (pc := 17) C dX12_hold_17 (v := 0) (by decide) ?_
    refine V_iconst (pc := 18) C dX12_hold_18 (v := 1) (by decide) ?_
    obtain ⟨r5, h6, eh6, hyp⟩ := bI_n hyp
    refine V_statI (pc := 19) C dX12_hold_19 lm_X12_183 ms_X12_within (M_X12_within _ eh6) rfl pd_X12_within (by decide) (by decide) (by decide) (As := [.int a2, .int (0 : Int32), .int (1 : Int32)]) (rest := []) rfl (Nat.le_of_ble_eq_true rfl) ?_
    refine V_if_eq (pc := 22) C dX12_hold_22 (tgt := 44) (by decide) (fun q7 => ?_) (fun q7 => ?_)
    · replace hyp := (if_pos q7).symm.trans hyp
      refine V_iconst (pc := 44) C dX12_hold_44 (v := 0) (by decide) ?_
      cases hyp
      exact V_zret C dX12_hold_45 rfl
    · replace hyp := (if_neg q7).symm.trans hyp
      refine V_iload_n (pc := 25) C dX12_hold_25 rfl ?_
      refine V_iconst (pc := 26) C dX12_hold_26 (v := 1) (by decide) ?_
      refine V_bipush (pc := 27) C dX12_hold_27 (v := 60) (by decide) ?_
      obtain ⟨r8, h9, eh9, hyp⟩ := bI_n hyp
      refine V_statI (pc := 29) C dX12_hold_29 lm_X12_183 ms_X12_within (M_X12_within _ eh9) rfl pd_X12_within (by decide) (by decide) (by decide) (As := [.int a3, .int (1 : Int32), .int (60 : Int32)]) (rest := []) rfl (Nat.le_of_ble_eq_true rfl) ?_
      refine V_if_eq (pc := 32) C dX12_hold_32 (tgt := 44) (by decide) (fun q10 => ?_) (fun q10 => ?_)
      · replace hyp := (if_pos q10).symm.trans hyp
        refine V_iconst (pc := 44) C dX12_hold_44 (v := 0) (by decide) ?_
        cases hyp
        exact V_zret C dX12_hold_45 rfl
      · replace hyp := (if_neg q10).symm.trans hyp
        refine V_aload_n (pc := 35) C dX12_hold_35 rfl ?_
        refine V_getI (pc := 36) C dX12_hold_36 lf_X12_427 fk_103_61 ?_
        refine V_bipush (pc := 39) C dX12_hold_39 (v := 8) (by decide) ?_
        refine V_icmp_ne (pc := 41) C dX12_hold_41 (tgt := 46) (by decide) (fun q11 => ?_) (fun q11 => ?_)
        · replace hyp := (if_neg q11).symm.trans hyp
          refine V_aload_n (pc := 46) C dX12_hold_46 rfl ?_
          refine V_getR (pc := 47) C dX12_hold_47 lf_X12_129 fk_103_62 ?_
          refine V_aload_n (pc := 50) C dX12_hold_50 rfl ?_
          refine V_getI (pc := 51) C dX12_hold_51 lf_X12_427 fk_103_61 ?_
          refine V_iload_n (pc := 54) C dX12_hold_54 rfl ?_
          obtain ⟨g12, hyp⟩ := gd_n hyp
          obtain ⟨h13, eh13, hyp⟩ := hb_n hyp
          refine V_iast (pc := 55) C dX12_hold_55 ak_139 g12 eh13 ?_
          refine V_aload_n (pc := 56) C dX12_hold_56 rfl ?_
          refine V_getR (pc := 57) C dX12_hold_57 lf_X12_132 fk_103_63 ?_
          refine V_aload_n (pc := 60) C dX12_hold_60 rfl ?_
          refine V_getI (pc := 61) C dX12_hold_61 lf_X12_427 fk_103_61 ?_
          refine V_iload_n (pc := 64) C dX12_hold_64 rfl ?_
          obtain ⟨g14, hyp⟩ := gd_n hyp
          obtain ⟨h15, eh15, hyp⟩ := hb_n hyp
          refine V_iast (pc := 65) C dX12_hold_65 ak_140 g14 eh15 ?_
          refine V_aload_n (pc := 66) C dX12_hold_66 rfl ?_
          refine V_getR (pc := 67) C dX12_hold_67 lf_X12_135 fk_103_64 ?_
          refine V_aload_n (pc := 70) C dX12_hold_70 rfl ?_
          refine V_getI (pc := 71) C dX12_hold_71 lf_X12_427 fk_103_61 ?_
          refine V_iload_n (pc := 74) C dX12_hold_74 rfl ?_
          obtain ⟨g16, hyp⟩ := gd_n hyp
          obtain ⟨h17, eh17, hyp⟩ := hb_n hyp
          refine V_iast (pc := 75) C dX12_hold_75 ak_141 g16 eh17 ?_
          refine V_aload_n (pc := 76) C dX12_hold_76 rfl ?_
          refine V_dup (pc := 77) C dX12_hold_77 rfl ?_
          refine V_getI (pc := 78) C dX12_hold_78 lf_X12_427 fk_103_61 ?_
          refine V_iconst (pc := 81) C dX12_hold_81 (v := 1) (by decide) ?_
          refine V_iadd (pc := 82) C dX12_hold_82 ?_
          obtain ⟨h18, eh18, hyp⟩ := hb_n hyp
          refine V_putI (pc := 83) C dX12_hold_83 lf_X12_427 fk_103_61 rfl rfl eh18 ?_
          refine V_iconst (pc := 86) C dX12_hold_86 (v := 1) (by decide) ?_
          cases hyp
          exact V_zret C dX12_hold_87 rfl
        · replace hyp := (if_pos q11).symm.trans hyp
          refine V_iconst (pc := 44) C dX12_hold_44 (v := 0) (by decide) ?_
          cases hyp
          exact V_zret C dX12_hold_45 rfl
theorem dX12_fire_0 : decode cX12_fire 0 = .ok (.aload_n 0, 1) := by decide +kernel
theorem dX12_fire_1 : decode cX12_fire 1 = .ok (.iconst 0, 1) := by decide +kernel
theorem dX12_fire_2 : decode cX12_fire 2 = .ok (.putfield 180, 3) := by decide +kernel
theorem dX12_fire_5 : decode cX12_fire 5 = .ok (.iload_n 1, 1) := by decide +kernel
theorem dX12_fire_6 : decode cX12_fire 6 = .ok (.iconst (-1), 1) := by decide +kernel
theorem dX12_fire_7 : decode cX12_fire 7 = .ok (.sipush 899, 3) := by decide +kernel
theorem dX12_fire_10 : decode cX12_fire 10 = .ok (.invokestatic 183, 3) := by decide +kernel
theorem dX12_fire_13 : decode cX12_fire 13 = .ok (.ifCond .ne 5, 3) := by decide +kernel
theorem dX12_fire_16 : decode cX12_fire 16 = .ok (.iconst 0, 1) := by decide +kernel
theorem dX12_fire_17 : decode cX12_fire 17 = .ok (.ireturn, 1) := by decide +kernel
theorem dX12_fire_18 : decode cX12_fire 18 = .ok (.aload_n 0, 1) := by decide +kernel
theorem dX12_fire_19 : decode cX12_fire 19 = .ok (.iload_n 1, 1) := by decide +kernel
theorem dX12_fire_20 : decode cX12_fire 20 = .ok (.putfield 138, 3) := by decide +kernel
theorem dX12_fire_23 : decode cX12_fire 23 = .ok (.iconst 1, 1) := by decide +kernel
theorem dX12_fire_24 : decode cX12_fire 24 = .ok (.ireturn, 1) := by decide +kernel
def F_X12_fire (a1 : Int32) (h : PH) : Option (Int32 × PH) :=
  hb (hs h 103 0 (0 : Int32)) fun h1 =>
  bI (F_X12_within a1 (-1 : Int32) (899 : Int32) h1) fun r2 h3 =>
  if r2 = 0 then
    some ((0 : Int32), h3)
  else
    hb (hs h3 103 65 a1) fun h5 =>
    some ((1 : Int32), h5)
set_option maxRecDepth 20000 in
set_option maxHeartbeats 4000000 in
theorem M_X12_fire (E : EV) {a1 : Int32} {r : Int32} {h h2 : PH} (hyp : F_X12_fire a1 h = some (r, h2)) : MI E 154 yX12_fire cX12_fire 2 (some .boolean) 1 22 [.ref 103, .int a1] h r h2 := by
  refine MI.of 0 (by decide) rfl (fun X e1 C => ?_)
  subst e1
  replace C : CX X 154 cX12_fire 2 RX12 (some .boolean) 1 22 := C
  show V X _ h 0 [some (.ref 103), some (.int a1)] []
  unfold F_X12_fire at hyp
  refine V_aload_n (pc := 0) C dX12_fire_0 rfl ?_
  refine V_iconst (pc := 1) C dX12_fire_1 (v := 0) (by decide) ?_
  obtain ⟨h1, eh1, hyp⟩ := hb_n hyp
  refine V_putI (pc := 2) C dX12_fire_2 lf_X12_180 fk_103_0 rfl rfl eh1 ?_
  refine V_iload_n (pc := 5) C dX12_fire_5 rfl ?_
  refine V_iconst (pc := 6) C dX12_fire_6 (v := -1) (by decide) ?_
  refine V_sipush (pc := 7) C dX12_fire_7 (v := 899) (by decide) ?_
  obtain ⟨r2, h3, eh3, hyp⟩ := bI_n hyp
  refine V_statI (pc := 10) C dX12_fire_10 lm_X12_183 ms_X12_within (M_X12_within _ eh3) rfl pd_X12_within (by decide) (by decide) (by decide) (As := [.int a1, .int (-1 : Int32), .int (899 : Int32)]) (rest := []) rfl (Nat.le_of_ble_eq_true rfl) ?_
  refine V_if_ne (pc := 13) C dX12_fire_13 (tgt := 18) (by decide) (fun q4 => ?_) (fun q4 => ?_)
  · replace hyp := (if_neg q4).symm.trans hyp
    refine V_aload_n (pc := 18) C dX12_fire_18 rfl ?_
    refine V_iload_n (pc := 19) C dX12_fire_19 rfl ?_
    obtain ⟨h5, eh5, hyp⟩ := hb_n hyp
    refine V_putI (pc := 20) C dX12_fire_20 lf_X12_138 fk_103_65 rfl rfl eh5 ?_
    refine V_iconst (pc := 23) C dX12_fire_23 (v := 1) (by decide) ?_
    cases hyp
    exact V_zret C dX12_fire_24 rfl
  · replace hyp := (if_pos q4).symm.trans hyp
    refine V_iconst (pc := 16) C dX12_fire_16 (v := 0) (by decide) ?_
    cases hyp
    exact V_zret C dX12_fire_17 rfl
theorem dX12_nobody_0 : decode cX12_nobody 0 = .ok (.aload_n 0, 1) := by decide +kernel
theorem dX12_nobody_1 : decode cX12_nobody 1 = .ok (.iconst 0, 1) := by decide +kernel
theorem dX12_nobody_2 : decode cX12_nobody 2 = .ok (.putfield 180, 3) := by decide +kernel
theorem dX12_nobody_5 : decode cX12_nobody 5 = .ok (.aload_n 0, 1) := by decide +kernel
theorem dX12_nobody_6 : decode cX12_nobody 6 = .ok (.invokevirtual 203, 3) := by decide +kernel
theorem dX12_nobody_9 : decode cX12_nobody 9 = .ok (.iconst 1, 1) := by decide +kernel
theorem dX12_nobody_10 : decode cX12_nobody 10 = .ok (.ireturn, 1) := by decide +kernel
def F_X12_nobody (h : PH) : Option (Int32 × PH) :=
  hb (hs h 103 0 (0 : Int32)) fun h1 =>
  bV (F_X12_clears  h1) fun h3 =>
  some ((1 : Int32), h3)
set_option maxRecDepth 20000 in
set_option maxHeartbeats 4000000 in
theorem M_X12_nobody (E : EV) {r : Int32} {h h2 : PH} (hyp : F_X12_nobody  h = some (r, h2)) : MI E 154 yX12_nobody cX12_nobody 1 (some .boolean) 1 20 [.ref 103] h r h2 := by
  refine MI.of 0 (by decide) rfl (fun X e1 C => ?_)
  subst e1
  replace C : CX X 154 cX12_nobody 1 RX12 (some .boolean) 1 20 := C
  show V X _ h 0 [some (.ref 103)] []
  unfold F_X12_nobody at hyp
  refine V_aload_n (pc := 0) C dX12_nobody_0 rfl ?_
  refine V_iconst (pc := 1) C dX12_nobody_1 (v := 0) (by decide) ?_
  obtain ⟨h1, eh1, hyp⟩ := hb_n hyp
  refine V_putI (pc := 2) C dX12_nobody_2 lf_X12_180 fk_103_0 rfl rfl eh1 ?_
  refine V_aload_n (pc := 5) C dX12_nobody_5 rfl ?_
  obtain ⟨h3, eh3, hyp⟩ := bV_n hyp
  refine V_callV (pc := 6) C dX12_nobody_6 lm_X12_203 mk_X12_clears ok_103 rfl (M_X12_clears _ eh3) rfl pd_X12_clears (by decide) (by decide) (by decide) (As := []) (rest := []) rfl (Nat.le_of_ble_eq_true rfl) ?_
  refine V_iconst (pc := 9) C dX12_nobody_9 (v := 1) (by decide) ?_
  cases hyp
  exact V_zret C dX12_nobody_10 rfl
theorem dX12_isInside_0 : decode cX12_isInside 0 = .ok (.aload_n 0, 1) := by decide +kernel
theorem dX12_isInside_1 : decode cX12_isInside 1 = .ok (.getfield 141, 3) := by decide +kernel
theorem dX12_isInside_4 : decode cX12_isInside 4 = .ok (.iload_n 1, 1) := by decide +kernel
theorem dX12_isInside_5 : decode cX12_isInside 5 = .ok (.iaload, 1) := by decide +kernel
theorem dX12_isInside_6 : decode cX12_isInside 6 = .ok (.iload_n 2, 1) := by decide +kernel
theorem dX12_isInside_7 : decode cX12_isInside 7 = .ok (.if_icmp .ne 25, 3) := by decide +kernel
theorem dX12_isInside_10 : decode cX12_isInside 10 = .ok (.aload_n 0, 1) := by decide +kernel
theorem dX12_isInside_11 : decode cX12_isInside 11 = .ok (.getfield 144, 3) := by decide +kernel
theorem dX12_isInside_14 : decode cX12_isInside 14 = .ok (.iload_n 1, 1) := by decide +kernel
theorem dX12_isInside_15 : decode cX12_isInside 15 = .ok (.iaload, 1) := by decide +kernel
theorem dX12_isInside_16 : decode cX12_isInside 16 = .ok (.ifCond .lt 16, 3) := by decide +kernel
theorem dX12_isInside_19 : decode cX12_isInside 19 = .ok (.aload_n 0, 1) := by decide +kernel
theorem dX12_isInside_20 : decode cX12_isInside 20 = .ok (.getfield 147, 3) := by decide +kernel
theorem dX12_isInside_23 : decode cX12_isInside 23 = .ok (.iload_n 1, 1) := by decide +kernel
theorem dX12_isInside_24 : decode cX12_isInside 24 = .ok (.iaload, 1) := by decide +kernel
theorem dX12_isInside_25 : decode cX12_isInside 25 = .ok (.ifCond .ge 7, 3) := by decide +kernel
theorem dX12_isInside_28 : decode cX12_isInside 28 = .ok (.iconst 1, 1) := by decide +kernel
theorem dX12_isInside_29 : decode cX12_isInside 29 = .ok (.goto 4, 3) := by decide +kernel
theorem dX12_isInside_32 : decode cX12_isInside 32 = .ok (.iconst 0, 1) := by decide +kernel
theorem dX12_isInside_33 : decode cX12_isInside 33 = .ok (.ireturn, 1) := by decide +kernel
def F_X12_isInside_b32 (h : PH) : Option (Int32 × PH) :=
  some ((0 : Int32), h)
set_option maxRecDepth 20000 in
set_option maxHeartbeats 4000000 in
theorem T_X12_isInside_b32 {X : CT} (C : CX X 154 cX12_isInside 3 RX12 (some .boolean) 0 0) {r0 : Int32} {h0 : PH} : ∀ (h : PH), F_X12_isInside_b32  h = some (r0, h0) → V X (QI X r0 h0) h 32 [none, none, none] [] := by
  intro  h hyp
  unfold F_X12_isInside_b32 at hyp
  refine V_iconst (pc := 32) C dX12_isInside_32 (v := 0) (by decide) ?_
  cases hyp
  exact V_zret C dX12_isInside_33 rfl
def F_X12_isInside (a1 : Int32) (a2 : Int32) (h : PH) : Option (Int32 × PH) :=
  if inb a1 24 = true then
  if (h.1 142 a1.toNatClampNeg) = a2 then
    if inb a1 24 = true then
    if (h.1 143 a1.toNatClampNeg) < 0 then
      F_X12_isInside_b32  h
    else
      if inb a1 24 = true then
      if 0 ≤ (h.1 144 a1.toNatClampNeg) then
        F_X12_isInside_b32  h
      else
        some ((1 : Int32), h)
      else none
    else none
  else
    F_X12_isInside_b32  h
  else none
set_option maxRecDepth 20000 in
set_option maxHeartbeats 4000000 in
theorem M_X12_isInside (E : EV) {a1 : Int32} {a2 : Int32} {r : Int32} {h h2 : PH} (hyp : F_X12_isInside a1 a2 h = some (r, h2)) : MI E 154 yX12_isInside cX12_isInside 3 (some .boolean) 0 0 [.ref 103, .int a1, .int a2] h r h2 := by
  refine MI.of 0 (by decide) rfl (fun X e1 C => ?_)
  subst e1
  replace C : CX X 154 cX12_isInside 3 RX12 (some .boolean) 0 0 := C
  show V X _ h 0 [some (.ref 103), some (.int a1), some (.int a2)] []
  unfold F_X12_isInside at hyp
  refine V_aload_n (pc := 0) C dX12_isInside_0 rfl ?_
  refine V_getR (pc := 1) C dX12_isInside_1 lf_X12_141 fk_103_66 ?_
  refine V_iload_n (pc := 4) C dX12_isInside_4 rfl ?_
  obtain ⟨g1, hyp⟩ := gd_n hyp
  refine V_iald (pc := 5) C dX12_isInside_5 ak_142 g1 ?_
  refine V_iload_n (pc := 6) C dX12_isInside_6 rfl ?_
  refine V_icmp_ne (pc := 7) C dX12_isInside_7 (tgt := 32) (by decide) (fun q2 => ?_) (fun q2 => ?_)
  · replace hyp := (if_neg q2).symm.trans hyp
    refine V_weak (lv' := [none, none, none]) (lvle_n (lvle_n (lvle_n lvle_0))) ?_
    exact (T_X12_isInside_b32 C) h hyp
  · replace hyp := (if_pos q2).symm.trans hyp
    refine V_aload_n (pc := 10) C dX12_isInside_10 rfl ?_
    refine V_getR (pc := 11) C dX12_isInside_11 lf_X12_144 fk_103_67 ?_
    refine V_iload_n (pc := 14) C dX12_isInside_14 rfl ?_
    obtain ⟨g3, hyp⟩ := gd_n hyp
    refine V_iald (pc := 15) C dX12_isInside_15 ak_143 g3 ?_
    refine V_if_lt (pc := 16) C dX12_isInside_16 (tgt := 32) (by decide) (fun q4 => ?_) (fun q4 => ?_)
    · replace hyp := (if_pos q4).symm.trans hyp
      refine V_weak (lv' := [none, none, none]) (lvle_n (lvle_n (lvle_n lvle_0))) ?_
      exact (T_X12_isInside_b32 C) h hyp
    · replace hyp := (if_neg q4).symm.trans hyp
      refine V_aload_n (pc := 19) C dX12_isInside_19 rfl ?_
      refine V_getR (pc := 20) C dX12_isInside_20 lf_X12_147 fk_103_68 ?_
      refine V_iload_n (pc := 23) C dX12_isInside_23 rfl ?_
      obtain ⟨g5, hyp⟩ := gd_n hyp
      refine V_iald (pc := 24) C dX12_isInside_24 ak_144 g5 ?_
      refine V_if_ge (pc := 25) C dX12_isInside_25 (tgt := 32) (by decide) (fun q6 => ?_) (fun q6 => ?_)
      · replace hyp := (if_pos q6).symm.trans hyp
        refine V_weak (lv' := [none, none, none]) (lvle_n (lvle_n (lvle_n lvle_0))) ?_
        exact (T_X12_isInside_b32 C) h hyp
      · replace hyp := (if_neg q6).symm.trans hyp
        refine V_iconst (pc := 28) C dX12_isInside_28 (v := 1) (by decide) ?_
        refine V_goto (pc := 29) C dX12_isInside_29 (tgt := 33) (by decide) ?_
        cases hyp
        exact V_zret C dX12_isInside_33 rfl
theorem dX12_isWaiting_0 : decode cX12_isWaiting 0 = .ok (.aload_n 0, 1) := by decide +kernel
theorem dX12_isWaiting_1 : decode cX12_isWaiting 1 = .ok (.getfield 141, 3) := by decide +kernel
theorem dX12_isWaiting_4 : decode cX12_isWaiting 4 = .ok (.iload_n 1, 1) := by decide +kernel
theorem dX12_isWaiting_5 : decode cX12_isWaiting 5 = .ok (.iaload, 1) := by decide +kernel
theorem dX12_isWaiting_6 : decode cX12_isWaiting 6 = .ok (.iload_n 2, 1) := by decide +kernel
theorem dX12_isWaiting_7 : decode cX12_isWaiting 7 = .ok (.if_icmp .ne 16, 3) := by decide +kernel
theorem dX12_isWaiting_10 : decode cX12_isWaiting 10 = .ok (.aload_n 0, 1) := by decide +kernel
theorem dX12_isWaiting_11 : decode cX12_isWaiting 11 = .ok (.getfield 144, 3) := by decide +kernel
theorem dX12_isWaiting_14 : decode cX12_isWaiting 14 = .ok (.iload_n 1, 1) := by decide +kernel
theorem dX12_isWaiting_15 : decode cX12_isWaiting 15 = .ok (.iaload, 1) := by decide +kernel
theorem dX12_isWaiting_16 : decode cX12_isWaiting 16 = .ok (.ifCond .ge 7, 3) := by decide +kernel
theorem dX12_isWaiting_19 : decode cX12_isWaiting 19 = .ok (.iconst 1, 1) := by decide +kernel
theorem dX12_isWaiting_20 : decode cX12_isWaiting 20 = .ok (.goto 4, 3) := by decide +kernel
theorem dX12_isWaiting_23 : decode cX12_isWaiting 23 = .ok (.iconst 0, 1) := by decide +kernel
theorem dX12_isWaiting_24 : decode cX12_isWaiting 24 = .ok (.ireturn, 1) := by decide +kernel
def F_X12_isWaiting_b23 (h : PH) : Option (Int32 × PH) :=
  some ((0 : Int32), h)
set_option maxRecDepth 20000 in
set_option maxHeartbeats 4000000 in
theorem T_X12_isWaiting_b23 {X : CT} (C : CX X 154 cX12_isWaiting 3 RX12 (some .boolean) 0 0) {r0 : Int32} {h0 : PH} : ∀ (h : PH), F_X12_isWaiting_b23  h = some (r0, h0) → V X (QI X r0 h0) h 23 [none, none, none] [] := by
  intro  h hyp
  unfold F_X12_isWaiting_b23 at hyp
  refine V_iconst (pc := 23) C dX12_isWaiting_23 (v := 0) (by decide) ?_
  cases hyp
  exact V_zret C dX12_isWaiting_24 rfl
def F_X12_isWaiting (a1 : Int32) (a2 : Int32) (h : PH) : Option (Int32 × PH) :=
  if inb a1 24 = true then
  if (h.1 142 a1.toNatClampNeg) = a2 then
    if inb a1 24 = true then
    if 0 ≤ (h.1 143 a1.toNatClampNeg) then
      F_X12_isWaiting_b23  h
    else
      some ((1 : Int32), h)
    else none
  else
    F_X12_isWaiting_b23  h
  else none
set_option maxRecDepth 20000 in
set_option maxHeartbeats 4000000 in
theorem M_X12_isWaiting (E : EV) {a1 : Int32} {a2 : Int32} {r : Int32} {h h2 : PH} (hyp : F_X12_isWaiting a1 a2 h = some (r, h2)) : MI E 154 yX12_isWaiting cX12_isWaiting 3 (some .boolean) 0 0 [.ref 103, .int a1, .int a2] h r h2 := by
  refine MI.of 0 (by decide) rfl (fun X e1 C => ?_)
  subst e1
  replace C : CX X 154 cX12_isWaiting 3 RX12 (some .boolean) 0 0 := C
  show V X _ h 0 [some (.ref 103), some (.int a1), some (.int a2)] []
  unfold F_X12_isWaiting at hyp
  refine V_aload_n (pc := 0) C dX12_isWaiting_0 rfl ?_
  refine V_getR (pc := 1) C dX12_isWaiting_1 lf_X12_141 fk_103_66 ?_
  refine V_iload_n (pc := 4) C dX12_isWaiting_4 rfl ?_
  obtain ⟨g1, hyp⟩ := gd_n hyp
  refine V_iald (pc := 5) C dX12_isWaiting_5 ak_142 g1 ?_
  refine V_iload_n (pc := 6) C dX12_isWaiting_6 rfl ?_
  refine V_icmp_ne (pc := 7) C dX12_isWaiting_7 (tgt := 23) (by decide) (fun q2 => ?_) (fun q2 => ?_)
  · replace hyp := (if_neg q2).symm.trans hyp
    refine V_weak (lv' := [none, none, none]) (lvle_n (lvle_n (lvle_n lvle_0))) ?_
    exact (T_X12_isWaiting_b23 C) h hyp
  · replace hyp := (if_pos q2).symm.trans hyp
    refine V_aload_n (pc := 10) C dX12_isWaiting_10 rfl ?_
    refine V_getR (pc := 11) C dX12_isWaiting_11 lf_X12_144 fk_103_67 ?_
    refine V_iload_n (pc := 14) C dX12_isWaiting_14 rfl ?_
    obtain ⟨g3, hyp⟩ := gd_n hyp
    refine V_iald (pc := 15) C dX12_isWaiting_15 ak_143 g3 ?_
    refine V_if_ge (pc := 16) C dX12_isWaiting_16 (tgt := 23) (by decide) (fun q4 => ?_) (fun q4 => ?_)
    · replace hyp := (if_pos q4).symm.trans hyp
      refine V_weak (lv' := [none, none, none]) (lvle_n (lvle_n (lvle_n lvle_0))) ?_
      exact (T_X12_isWaiting_b23 C) h hyp
    · replace hyp := (if_neg q4).symm.trans hyp
      refine V_iconst (pc := 19) C dX12_isWaiting_19 (v := 1) (by decide) ?_
      refine V_goto (pc := 20) C dX12_isWaiting_20 (tgt := 24) (by decide) ?_
      cases hyp
      exact V_zret C dX12_isWaiting_24 rfl
