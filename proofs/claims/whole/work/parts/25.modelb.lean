theorem dX12_readsFact_0 : decode cX12_readsFact 0 = .ok (.iload_n 1, 1) := by decide +kernel
theorem dX12_readsFact_1 : decode cX12_readsFact 1 = .ok (.bipush 11, 2) := by decide +kernel
theorem dX12_readsFact_3 : decode cX12_readsFact 3 = .ok (.if_icmp .ge 24, 3) := by decide +kernel
theorem dX12_readsFact_6 : decode cX12_readsFact 6 = .ok (.aload_n 0, 1) := by decide +kernel
theorem dX12_readsFact_7 : decode cX12_readsFact 7 = .ok (.iload_n 1, 1) := by decide +kernel
theorem dX12_readsFact_8 : decode cX12_readsFact 8 = .ok (.ifCond .le 7, 3) := by decide +kernel
theorem dX12_readsFact_11 : decode cX12_readsFact 11 = .ok (.iload_n 1, 1) := by decide +kernel
theorem dX12_readsFact_12 : decode cX12_readsFact 12 = .ok (.goto 10, 3) := by decide +kernel
theorem dX12_readsFact_15 : decode cX12_readsFact 15 = .ok (.bipush 100, 2) := by decide +kernel
theorem dX12_readsFact_17 : decode cX12_readsFact 17 = .ok (.aload_n 0, 1) := by decide +kernel
theorem dX12_readsFact_18 : decode cX12_readsFact 18 = .ok (.getfield 230, 3) := by decide +kernel
theorem dX12_readsFact_21 : decode cX12_readsFact 21 = .ok (.iadd, 1) := by decide +kernel
theorem dX12_readsFact_22 : decode cX12_readsFact 22 = .ok (.invokevirtual 283, 3) := by decide +kernel
theorem dX12_readsFact_25 : decode cX12_readsFact 25 = .ok (.iconst 1, 1) := by decide +kernel
theorem dX12_readsFact_26 : decode cX12_readsFact 26 = .ok (.ireturn, 1) := by decide +kernel
theorem dX12_readsFact_27 : decode cX12_readsFact 27 = .ok (.aload_n 0, 1) := by decide +kernel
theorem dX12_readsFact_28 : decode cX12_readsFact 28 = .ok (.invokevirtual 287, 3) := by decide +kernel
theorem dX12_readsFact_31 : decode cX12_readsFact 31 = .ok (.aload_n 0, 1) := by decide +kernel
theorem dX12_readsFact_32 : decode cX12_readsFact 32 = .ok (.getfield 233, 3) := by decide +kernel
theorem dX12_readsFact_35 : decode cX12_readsFact 35 = .ok (.iconst 2, 1) := by decide +kernel
theorem dX12_readsFact_36 : decode cX12_readsFact 36 = .ok (.if_icmp .eq 9, 3) := by decide +kernel
theorem dX12_readsFact_39 : decode cX12_readsFact 39 = .ok (.aload_n 0, 1) := by decide +kernel
theorem dX12_readsFact_40 : decode cX12_readsFact 40 = .ok (.iconst 1, 1) := by decide +kernel
theorem dX12_readsFact_41 : decode cX12_readsFact 41 = .ok (.invokevirtual 290, 3) := by decide +kernel
theorem dX12_readsFact_44 : decode cX12_readsFact 44 = .ok (.ireturn, 1) := by decide +kernel
theorem dX12_readsFact_45 : decode cX12_readsFact 45 = .ok (.aload_n 0, 1) := by decide +kernel
theorem dX12_readsFact_46 : decode cX12_readsFact 46 = .ok (.getfield 230, 3) := by decide +kernel
theorem dX12_readsFact_49 : decode cX12_readsFact 49 = .ok (.aload_n 0, 1) := by decide +kernel
theorem dX12_readsFact_50 : decode cX12_readsFact 50 = .ok (.getfield 7, 3) := by decide +kernel
theorem dX12_readsFact_53 : decode cX12_readsFact 53 = .ok (.if_icmp .lt 9, 3) := by decide +kernel
theorem dX12_readsFact_56 : decode cX12_readsFact 56 = .ok (.aload_n 0, 1) := by decide +kernel
theorem dX12_readsFact_57 : decode cX12_readsFact 57 = .ok (.iconst 4, 1) := by decide +kernel
theorem dX12_readsFact_58 : decode cX12_readsFact 58 = .ok (.invokevirtual 290, 3) := by decide +kernel
theorem dX12_readsFact_61 : decode cX12_readsFact 61 = .ok (.ireturn, 1) := by decide +kernel
theorem dX12_readsFact_62 : decode cX12_readsFact 62 = .ok (.aload_n 0, 1) := by decide +kernel
theorem dX12_readsFact_63 : decode cX12_readsFact 63 = .ok (.iload_n 1, 1) := by decide +kernel
theorem dX12_readsFact_64 : decode cX12_readsFact 64 = .ok (.bipush 11, 2) := by decide +kernel
theorem dX12_readsFact_66 : decode cX12_readsFact 66 = .ok (.if_icmp .ne 13, 3) := by decide +kernel
theorem dX12_readsFact_69 : decode cX12_readsFact 69 = .ok (.bipush 40, 2) := by decide +kernel
theorem dX12_readsFact_71 : decode cX12_readsFact 71 = .ok (.aload_n 0, 1) := by decide +kernel
theorem dX12_readsFact_72 : decode cX12_readsFact 72 = .ok (.getfield 230, 3) := by decide +kernel
theorem dX12_readsFact_75 : decode cX12_readsFact 75 = .ok (.iadd, 1) := by decide +kernel
theorem dX12_readsFact_76 : decode cX12_readsFact 76 = .ok (.goto 10, 3) := by decide +kernel
theorem dX12_readsFact_79 : decode cX12_readsFact 79 = .ok (.bipush 50, 2) := by decide +kernel
theorem dX12_readsFact_81 : decode cX12_readsFact 81 = .ok (.aload_n 0, 1) := by decide +kernel
theorem dX12_readsFact_82 : decode cX12_readsFact 82 = .ok (.getfield 230, 3) := by decide +kernel
theorem dX12_readsFact_85 : decode cX12_readsFact 85 = .ok (.iadd, 1) := by decide +kernel
theorem dX12_readsFact_86 : decode cX12_readsFact 86 = .ok (.invokevirtual 283, 3) := by decide +kernel
theorem dX12_readsFact_89 : decode cX12_readsFact 89 = .ok (.iconst 1, 1) := by decide +kernel
theorem dX12_readsFact_90 : decode cX12_readsFact 90 = .ok (.ireturn, 1) := by decide +kernel
def F_X12_readsFact_b22 (N : Nat) (s0 : Int32) (h : PH) : Option (Int32 × PH) :=
  bV (F_X12_puts s0 h) fun h2 =>
  some ((1 : Int32), h2)
set_option maxRecDepth 20000 in
set_option maxHeartbeats 4000000 in
theorem T_X12_readsFact_b22 {X : CT} (C : CX X 154 cX12_readsFact 2 RX12 (some .boolean) 2 42) {r0 : Int32} {h0 : PH} {N : Nat} : ∀ (s0 : Int32) (h : PH), F_X12_readsFact_b22 N s0 h = some (r0, h0) → V X (QI X r0 h0) h 22 [none, none] [.int s0, .ref 103] := by
  intro s0 h hyp
  unfold F_X12_readsFact_b22 at hyp
  obtain ⟨h2, eh2, hyp⟩ := bV_n hyp
  refine V_callV (pc := 22) C dX12_readsFact_22 lm_X12_283 mk_X12_puts ok_103 rfl (M_X12_puts _ eh2) rfl pd_X12_puts (by decide) (by decide) (by decide) (As := [.int s0]) (rest := []) rfl (Nat.le_of_ble_eq_true rfl) ?_
  refine V_iconst (pc := 25) C dX12_readsFact_25 (v := 1) (by decide) ?_
  cases hyp
  exact V_zret C dX12_readsFact_26 rfl
def F_X12_readsFact_b86 (N : Nat) (s0 : Int32) (h : PH) : Option (Int32 × PH) :=
  bV (F_X12_puts s0 h) fun h2 =>
  some ((1 : Int32), h2)
set_option maxRecDepth 20000 in
set_option maxHeartbeats 4000000 in
theorem T_X12_readsFact_b86 {X : CT} (C : CX X 154 cX12_readsFact 2 RX12 (some .boolean) 2 42) {r0 : Int32} {h0 : PH} {N : Nat} : ∀ (s0 : Int32) (h : PH), F_X12_readsFact_b86 N s0 h = some (r0, h0) → V X (QI X r0 h0) h 86 [none, none] [.int s0, .ref 103] := by
  intro s0 h hyp
  unfold F_X12_readsFact_b86 at hyp
  obtain ⟨h2, eh2, hyp⟩ := bV_n hyp
  refine V_callV (pc := 86) C dX12_readsFact_86 lm_X12_283 mk_X12_puts ok_103 rfl (M_X12_puts _ eh2) rfl pd_X12_puts (by decide) (by decide) (by decide) (As := [.int s0]) (rest := []) rfl (Nat.le_of_ble_eq_true rfl) ?_
  refine V_iconst (pc := 89) C dX12_readsFact_89 (v := 1) (by decide) ?_
  cases hyp
  exact V_zret C dX12_readsFact_90 rfl
def F_X12_readsFact (N : Nat) (a1 : Int32) (h : PH) : Option (Int32 × PH) :=
  if (11 : Int32) ≤ a1 then
    bV (F_X12_nextToken N  h) fun h3 =>
    if (h3.1 103 7) = (2 : Int32) then
      if (h3.1 103 9) < (h3.1 103 1) then
        if a1 = (11 : Int32) then
          F_X12_readsFact_b86 N ((40 : Int32) + (h3.1 103 9)) h3
        else
          F_X12_readsFact_b86 N ((50 : Int32) + (h3.1 103 9)) h3
      else
        bI (F_X12_fails (4 : Int32) h3) fun r7 h8 =>
        if zb r7 = true then
        some (r7, h8)
        else none
    else
      bI (F_X12_fails (1 : Int32) h3) fun r10 h11 =>
      if zb r10 = true then
      some (r10, h11)
      else none
  else
    if a1 ≤ 0 then
      F_X12_readsFact_b22 N ((100 : Int32) + (h.1 103 9)) h
    else
      F_X12_readsFact_b22 N a1 h
set_option maxRecDepth 20000 in
set_option maxHeartbeats 4000000 in
theorem M_X12_readsFact (E : EV) {N : Nat} {a1 : Int32} {r : Int32} {h h2 : PH} (hyp : F_X12_readsFact N a1 h = some (r, h2)) : MI E 154 yX12_readsFact cX12_readsFact 2 (some .boolean) 2 42 [.ref 103, .int a1] h r h2 := by
  refine MI.of 0 (by decide) rfl (fun X e1 C => ?_)
  subst e1
  replace C : CX X 154 cX12_readsFact 2 RX12 (some .boolean) 2 42 := C
  show V X _ h 0 [some (.ref 103), some (.int a1)] []
  unfold F_X12_readsFact at hyp
  refine V_iload_n (pc := 0) C dX12_readsFact_0 rfl ?_
  refine V_bipush (pc := 1) C dX12_readsFact_1 (v := 11) (by decide) ?_
  refine V_icmp_ge (pc := 3) C dX12_readsFact_3 (tgt := 27) (by decide) (fun q1 => ?_) (fun q1 => ?_)
  · replace hyp := (if_pos q1).symm.trans hyp
    refine V_aload_n (pc := 27) C dX12_readsFact_27 rfl ?_
    obtain ⟨h3, eh3, hyp⟩ := bV_n hyp
    refine V_callV (pc := 28) C dX12_readsFact_28 lm_X12_287 mk_X12_nextToken ok_103 rfl (M_X12_nextToken _ eh3) rfl pd_X12_nextToken (by decide) (by decide) (by decide) (As := []) (rest := []) rfl (Nat.le_of_ble_eq_true rfl) ?_
    refine V_aload_n (pc := 31) C dX12_readsFact_31 rfl ?_
    refine V_getI (pc := 32) C dX12_readsFact_32 lf_X12_233 fk_103_7 ?_
    refine V_iconst (pc := 35) C dX12_readsFact_35 (v := 2) (by decide) ?_
    refine V_icmp_eq (pc := 36) C dX12_readsFact_36 (tgt := 45) (by decide) (fun q4 => ?_) (fun q4 => ?_)
    · replace hyp := (if_pos q4).symm.trans hyp
      refine V_aload_n (pc := 45) C dX12_readsFact_45 rfl ?_
      refine V_getI (pc := 46) C dX12_readsFact_46 lf_X12_230 fk_103_9 ?_
      refine V_aload_n (pc := 49) C dX12_readsFact_49 rfl ?_
      refine V_getI (pc := 50) C dX12_readsFact_50 lf_X12_7 fk_103_1 ?_
      refine V_icmp_lt (pc := 53) C dX12_readsFact_53 (tgt := 62) (by decide) (fun q5 => ?_) (fun q5 => ?_)
      · replace hyp := (if_pos q5).symm.trans hyp
        refine V_aload_n (pc := 62) C dX12_readsFact_62 rfl ?_
        refine V_iload_n (pc := 63) C dX12_readsFact_63 rfl ?_
        refine V_bipush (pc := 64) C dX12_readsFact_64 (v := 11) (by decide) ?_
        refine V_icmp_ne (pc := 66) C dX12_readsFact_66 (tgt := 79) (by decide) (fun q6 => ?_) (fun q6 => ?_)
        · replace hyp := (if_neg q6).symm.trans hyp
          refine V_bipush (pc := 79) C dX12_readsFact_79 (v := 50) (by decide) ?_
          refine V_aload_n (pc := 81) C dX12_readsFact_81 rfl ?_
          refine V_getI (pc := 82) C dX12_readsFact_82 lf_X12_230 fk_103_9 ?_
          refine V_iadd (pc := 85) C dX12_readsFact_85 ?_
          refine V_weak (lv' := [none, none]) (lvle_n (lvle_n lvle_0)) ?_
          exact (T_X12_readsFact_b86 C) ((50 : Int32) + (h3.1 103 9)) h3 hyp
        · replace hyp := (if_pos q6).symm.trans hyp
          refine V_bipush (pc := 69) C dX12_readsFact_69 (v := 40) (by decide) ?_
          refine V_aload_n (pc := 71) C dX12_readsFact_71 rfl ?_
          refine V_getI (pc := 72) C dX12_readsFact_72 lf_X12_230 fk_103_9 ?_
          refine V_iadd (pc := 75) C dX12_readsFact_75 ?_
          refine V_goto (pc := 76) C dX12_readsFact_76 (tgt := 86) (by decide) ?_
          refine V_weak (lv' := [none, none]) (lvle_n (lvle_n lvle_0)) ?_
          exact (T_X12_readsFact_b86 C) ((40 : Int32) + (h3.1 103 9)) h3 hyp
      · replace hyp := (if_neg q5).symm.trans hyp
        refine V_aload_n (pc := 56) C dX12_readsFact_56 rfl ?_
        refine V_iconst (pc := 57) C dX12_readsFact_57 (v := 4) (by decide) ?_
        obtain ⟨r7, h8, eh8, hyp⟩ := bI_n hyp
        refine V_callI (pc := 58) C dX12_readsFact_58 lm_X12_290 mk_X12_fails ok_103 rfl (M_X12_fails _ eh8) rfl pd_X12_fails (by decide) (by decide) (by decide) (As := [.int (4 : Int32)]) (rest := []) rfl (Nat.le_of_ble_eq_true rfl) ?_
        obtain ⟨g9, hyp⟩ := gd_n hyp
        cases hyp
        exact V_zret C dX12_readsFact_61 (zb_n g9).1
    · replace hyp := (if_neg q4).symm.trans hyp
      refine V_aload_n (pc := 39) C dX12_readsFact_39 rfl ?_
      refine V_iconst (pc := 40) C dX12_readsFact_40 (v := 1) (by decide) ?_
      obtain ⟨r10, h11, eh11, hyp⟩ := bI_n hyp
      refine V_callI (pc := 41) C dX12_readsFact_41 lm_X12_290 mk_X12_fails ok_103 rfl (M_X12_fails _ eh11) rfl pd_X12_fails (by decide) (by decide) (by decide) (As := [.int (1 : Int32)]) (rest := []) rfl (Nat.le_of_ble_eq_true rfl) ?_
      obtain ⟨g12, hyp⟩ := gd_n hyp
      cases hyp
      exact V_zret C dX12_readsFact_44 (zb_n g12).1
  · replace hyp := (if_neg q1).symm.trans hyp
    refine V_aload_n (pc := 6) C dX12_readsFact_6 rfl ?_
    refine V_iload_n (pc := 7) C dX12_readsFact_7 rfl ?_
    refine V_if_le (pc := 8) C dX12_readsFact_8 (tgt := 15) (by decide) (fun q13 => ?_) (fun q13 => ?_)
    · replace hyp := (if_pos q13).symm.trans hyp
      refine V_bipush (pc := 15) C dX12_readsFact_15 (v := 100) (by decide) ?_
      refine V_aload_n (pc := 17) C dX12_readsFact_17 rfl ?_
      refine V_getI (pc := 18) C dX12_readsFact_18 lf_X12_230 fk_103_9 ?_
      refine V_iadd (pc := 21) C dX12_readsFact_21 ?_
      refine V_weak (lv' := [none, none]) (lvle_n (lvle_n lvle_0)) ?_
      exact (T_X12_readsFact_b22 C) ((100 : Int32) + (h.1 103 9)) h hyp
    · replace hyp := (if_neg q13).symm.trans hyp
      refine V_iload_n (pc := 11) C dX12_readsFact_11 rfl ?_
      refine V_goto (pc := 12) C dX12_readsFact_12 (tgt := 22) (by decide) ?_
      refine V_weak (lv' := [none, none]) (lvle_n (lvle_n lvle_0)) ?_
      exact (T_X12_readsFact_b22 C) a1 h hyp
theorem dX12_reads_0 : decode cX12_reads 0 = .ok (.iconst 0, 1) := by decide +kernel
theorem dX12_reads_1 : decode cX12_reads 1 = .ok (.istore_n 1, 1) := by decide +kernel
theorem dX12_reads_2 : decode cX12_reads 2 = .ok (.iconst 1, 1) := by decide +kernel
theorem dX12_reads_3 : decode cX12_reads 3 = .ok (.istore_n 2, 1) := by decide +kernel
theorem dX12_reads_4 : decode cX12_reads 4 = .ok (.aload_n 0, 1) := by decide +kernel
theorem dX12_reads_5 : decode cX12_reads 5 = .ok (.getfield 42, 3) := by decide +kernel
theorem dX12_reads_8 : decode cX12_reads 8 = .ok (.iconst 0, 1) := by decide +kernel
theorem dX12_reads_9 : decode cX12_reads 9 = .ok (.iconst 0, 1) := by decide +kernel
theorem dX12_reads_10 : decode cX12_reads 10 = .ok (.bastore, 1) := by decide +kernel
theorem dX12_reads_11 : decode cX12_reads 11 = .ok (.iload_n 2, 1) := by decide +kernel
theorem dX12_reads_12 : decode cX12_reads 12 = .ok (.ifCond .eq 158, 3) := by decide +kernel
theorem dX12_reads_15 : decode cX12_reads 15 = .ok (.aload_n 0, 1) := by decide +kernel
theorem dX12_reads_16 : decode cX12_reads 16 = .ok (.invokevirtual 294, 3) := by decide +kernel
theorem dX12_reads_19 : decode cX12_reads 19 = .ok (.istore_n 3, 1) := by decide +kernel
theorem dX12_reads_20 : decode cX12_reads 20 = .ok (.aload_n 0, 1) := by decide +kernel
theorem dX12_reads_21 : decode cX12_reads 21 = .ok (.ldc2_w 298, 3) := by decide +kernel
theorem dX12_reads_24 : decode cX12_reads 24 = .ok (.invokevirtual 300, 3) := by decide +kernel
theorem dX12_reads_27 : decode cX12_reads 27 = .ok (.istore 4, 2) := by decide +kernel
theorem dX12_reads_29 : decode cX12_reads 29 = .ok (.aload_n 0, 1) := by decide +kernel
theorem dX12_reads_30 : decode cX12_reads 30 = .ok (.bipush 40, 2) := by decide +kernel
theorem dX12_reads_32 : decode cX12_reads 32 = .ok (.invokevirtual 304, 3) := by decide +kernel
theorem dX12_reads_35 : decode cX12_reads 35 = .ok (.istore 5, 2) := by decide +kernel
theorem dX12_reads_37 : decode cX12_reads 37 = .ok (.iload_n 3, 1) := by decide +kernel
theorem dX12_reads_38 : decode cX12_reads 38 = .ok (.ifCond .ne 27, 3) := by decide +kernel
theorem dX12_reads_41 : decode cX12_reads 41 = .ok (.iload 4, 2) := by decide +kernel
theorem dX12_reads_43 : decode cX12_reads 43 = .ok (.ifCond .ne 22, 3) := by decide +kernel
theorem dX12_reads_46 : decode cX12_reads 46 = .ok (.iload 5, 2) := by decide +kernel
theorem dX12_reads_48 : decode cX12_reads 48 = .ok (.ifCond .ne 17, 3) := by decide +kernel
theorem dX12_reads_51 : decode cX12_reads 51 = .ok (.aload_n 0, 1) := by decide +kernel
theorem dX12_reads_52 : decode cX12_reads 52 = .ok (.getfield 233, 3) := by decide +kernel
theorem dX12_reads_55 : decode cX12_reads 55 = .ok (.iconst 2, 1) := by decide +kernel
theorem dX12_reads_56 : decode cX12_reads 56 = .ok (.if_icmp .eq 9, 3) := by decide +kernel
theorem dX12_reads_59 : decode cX12_reads 59 = .ok (.aload_n 0, 1) := by decide +kernel
theorem dX12_reads_60 : decode cX12_reads 60 = .ok (.iconst 1, 1) := by decide +kernel
theorem dX12_reads_61 : decode cX12_reads 61 = .ok (.invokevirtual 290, 3) := by decide +kernel
theorem dX12_reads_64 : decode cX12_reads 64 = .ok (.ireturn, 1) := by decide +kernel
theorem dX12_reads_65 : decode cX12_reads 65 = .ok (.iload_n 1, 1) := by decide +kernel
theorem dX12_reads_66 : decode cX12_reads 66 = .ok (.iconst 5, 1) := by decide +kernel
theorem dX12_reads_67 : decode cX12_reads 67 = .ok (.if_icmp .ne 9, 3) := by decide +kernel
theorem dX12_reads_70 : decode cX12_reads 70 = .ok (.aload_n 0, 1) := by decide +kernel
theorem dX12_reads_71 : decode cX12_reads 71 = .ok (.iconst 5, 1) := by decide +kernel
theorem dX12_reads_72 : decode cX12_reads 72 = .ok (.invokevirtual 290, 3) := by decide +kernel
theorem dX12_reads_75 : decode cX12_reads 75 = .ok (.ireturn, 1) := by decide +kernel
theorem dX12_reads_76 : decode cX12_reads 76 = .ok (.iload 4, 2) := by decide +kernel
theorem dX12_reads_78 : decode cX12_reads 78 = .ok (.ifCond .ne 8, 3) := by decide +kernel
theorem dX12_reads_81 : decode cX12_reads 81 = .ok (.iload 5, 2) := by decide +kernel
theorem dX12_reads_83 : decode cX12_reads 83 = .ok (.ifCond .eq 48, 3) := by decide +kernel
theorem dX12_reads_86 : decode cX12_reads 86 = .ok (.aload_n 0, 1) := by decide +kernel
theorem dX12_reads_87 : decode cX12_reads 87 = .ok (.iload 4, 2) := by decide +kernel
theorem dX12_reads_89 : decode cX12_reads 89 = .ok (.ifCond .eq 8, 3) := by decide +kernel
theorem dX12_reads_92 : decode cX12_reads 92 = .ok (.bipush 30, 2) := by decide +kernel
theorem dX12_reads_94 : decode cX12_reads 94 = .ok (.goto 5, 3) := by decide +kernel
theorem dX12_reads_97 : decode cX12_reads 97 = .ok (.bipush 28, 2) := by decide +kernel
theorem dX12_reads_99 : decode cX12_reads 99 = .ok (.invokevirtual 283, 3) := by decide +kernel
theorem dX12_reads_102 : decode cX12_reads 102 = .ok (.iinc 1 1, 3) := by decide +kernel
theorem dX12_reads_105 : decode cX12_reads 105 = .ok (.aload_n 0, 1) := by decide +kernel
theorem dX12_reads_106 : decode cX12_reads 106 = .ok (.getfield 39, 3) := by decide +kernel
theorem dX12_reads_109 : decode cX12_reads 109 = .ok (.iload_n 1, 1) := by decide +kernel
theorem dX12_reads_110 : decode cX12_reads 110 = .ok (.iload 4, 2) := by decide +kernel
theorem dX12_reads_112 : decode cX12_reads 112 = .ok (.ifCond .eq 7, 3) := by decide +kernel
theorem dX12_reads_115 : decode cX12_reads 115 = .ok (.iconst 1, 1) := by decide +kernel
theorem dX12_reads_116 : decode cX12_reads 116 = .ok (.goto 4, 3) := by decide +kernel
theorem dX12_reads_119 : decode cX12_reads 119 = .ok (.iconst 2, 1) := by decide +kernel
theorem dX12_reads_120 : decode cX12_reads 120 = .ok (.iastore, 1) := by decide +kernel
theorem dX12_reads_121 : decode cX12_reads 121 = .ok (.aload_n 0, 1) := by decide +kernel
theorem dX12_reads_122 : decode cX12_reads 122 = .ok (.getfield 42, 3) := by decide +kernel
theorem dX12_reads_125 : decode cX12_reads 125 = .ok (.iload_n 1, 1) := by decide +kernel
theorem dX12_reads_126 : decode cX12_reads 126 = .ok (.iconst 0, 1) := by decide +kernel
theorem dX12_reads_127 : decode cX12_reads 127 = .ok (.bastore, 1) := by decide +kernel
theorem dX12_reads_128 : decode cX12_reads 128 = .ok (.goto 35, 3) := by decide +kernel
theorem dX12_reads_131 : decode cX12_reads 131 = .ok (.aload_n 0, 1) := by decide +kernel
theorem dX12_reads_132 : decode cX12_reads 132 = .ok (.iload_n 3, 1) := by decide +kernel
theorem dX12_reads_133 : decode cX12_reads 133 = .ok (.invokevirtual 307, 3) := by decide +kernel
theorem dX12_reads_136 : decode cX12_reads 136 = .ok (.ifCond .ne 5, 3) := by decide +kernel
theorem dX12_reads_139 : decode cX12_reads 139 = .ok (.iconst 0, 1) := by decide +kernel
theorem dX12_reads_140 : decode cX12_reads 140 = .ok (.ireturn, 1) := by decide +kernel
theorem dX12_reads_141 : decode cX12_reads 141 = .ok (.iconst 0, 1) := by decide +kernel
theorem dX12_reads_142 : decode cX12_reads 142 = .ok (.istore_n 2, 1) := by decide +kernel
theorem dX12_reads_143 : decode cX12_reads 143 = .ok (.iload_n 1, 1) := by decide +kernel
theorem dX12_reads_144 : decode cX12_reads 144 = .ok (.ifCond .le 19, 3) := by decide +kernel
theorem dX12_reads_147 : decode cX12_reads 147 = .ok (.aload_n 0, 1) := by decide +kernel
theorem dX12_reads_148 : decode cX12_reads 148 = .ok (.getfield 39, 3) := by decide +kernel
theorem dX12_reads_151 : decode cX12_reads 151 = .ok (.iload_n 1, 1) := by decide +kernel
theorem dX12_reads_152 : decode cX12_reads 152 = .ok (.iaload, 1) := by decide +kernel
theorem dX12_reads_153 : decode cX12_reads 153 = .ok (.iconst 1, 1) := by decide +kernel
theorem dX12_reads_154 : decode cX12_reads 154 = .ok (.if_icmp .ne 9, 3) := by decide +kernel
theorem dX12_reads_157 : decode cX12_reads 157 = .ok (.iinc 1 (-1), 3) := by decide +kernel
theorem dX12_reads_160 : decode cX12_reads 160 = .ok (.goto (-17), 3) := by decide +kernel
theorem dX12_reads_163 : decode cX12_reads 163 = .ok (.aload_n 0, 1) := by decide +kernel
theorem dX12_reads_164 : decode cX12_reads 164 = .ok (.invokevirtual 287, 3) := by decide +kernel
theorem dX12_reads_167 : decode cX12_reads 167 = .ok (.goto (-156), 3) := by decide +kernel
theorem dX12_reads_170 : decode cX12_reads 170 = .ok (.aload_n 0, 1) := by decide +kernel
theorem dX12_reads_171 : decode cX12_reads 171 = .ok (.bipush 43, 2) := by decide +kernel
theorem dX12_reads_173 : decode cX12_reads 173 = .ok (.invokevirtual 304, 3) := by decide +kernel
theorem dX12_reads_176 : decode cX12_reads 176 = .ok (.ifCond .ne 21, 3) := by decide +kernel
theorem dX12_reads_179 : decode cX12_reads 179 = .ok (.aload_n 0, 1) := by decide +kernel
theorem dX12_reads_180 : decode cX12_reads 180 = .ok (.bipush 45, 2) := by decide +kernel
theorem dX12_reads_182 : decode cX12_reads 182 = .ok (.invokevirtual 304, 3) := by decide +kernel
theorem dX12_reads_185 : decode cX12_reads 185 = .ok (.ifCond .ne 12, 3) := by decide +kernel
theorem dX12_reads_188 : decode cX12_reads 188 = .ok (.aload_n 0, 1) := by decide +kernel
theorem dX12_reads_189 : decode cX12_reads 189 = .ok (.bipush 42, 2) := by decide +kernel
theorem dX12_reads_191 : decode cX12_reads 191 = .ok (.invokevirtual 304, 3) := by decide +kernel
theorem dX12_reads_194 : decode cX12_reads 194 = .ok (.ifCond .eq 42, 3) := by decide +kernel
theorem dX12_reads_197 : decode cX12_reads 197 = .ok (.aload_n 0, 1) := by decide +kernel
theorem dX12_reads_198 : decode cX12_reads 198 = .ok (.aload_n 0, 1) := by decide +kernel
theorem dX12_reads_199 : decode cX12_reads 199 = .ok (.bipush 43, 2) := by decide +kernel
theorem dX12_reads_201 : decode cX12_reads 201 = .ok (.invokevirtual 304, 3) := by decide +kernel
theorem dX12_reads_204 : decode cX12_reads 204 = .ok (.ifCond .eq 8, 3) := by decide +kernel
theorem dX12_reads_207 : decode cX12_reads 207 = .ok (.bipush 20, 2) := by decide +kernel
theorem dX12_reads_209 : decode cX12_reads 209 = .ok (.goto 19, 3) := by decide +kernel
theorem dX12_reads_212 : decode cX12_reads 212 = .ok (.aload_n 0, 1) := by decide +kernel
theorem dX12_reads_213 : decode cX12_reads 213 = .ok (.bipush 45, 2) := by decide +kernel
theorem dX12_reads_215 : decode cX12_reads 215 = .ok (.invokevirtual 304, 3) := by decide +kernel
theorem dX12_reads_218 : decode cX12_reads 218 = .ok (.ifCond .eq 8, 3) := by decide +kernel
theorem dX12_reads_221 : decode cX12_reads 221 = .ok (.bipush 21, 2) := by decide +kernel
theorem dX12_reads_223 : decode cX12_reads 223 = .ok (.goto 5, 3) := by decide +kernel
theorem dX12_reads_226 : decode cX12_reads 226 = .ok (.bipush 22, 2) := by decide +kernel
theorem dX12_reads_228 : decode cX12_reads 228 = .ok (.invokevirtual 283, 3) := by decide +kernel
theorem dX12_reads_231 : decode cX12_reads 231 = .ok (.iconst 1, 1) := by decide +kernel
theorem dX12_reads_232 : decode cX12_reads 232 = .ok (.istore_n 2, 1) := by decide +kernel
theorem dX12_reads_233 : decode cX12_reads 233 = .ok (.goto 199, 3) := by decide +kernel
theorem dX12_reads_236 : decode cX12_reads 236 = .ok (.aload_n 0, 1) := by decide +kernel
theorem dX12_reads_237 : decode cX12_reads 237 = .ok (.bipush 60, 2) := by decide +kernel
theorem dX12_reads_239 : decode cX12_reads 239 = .ok (.invokevirtual 304, 3) := by decide +kernel
theorem dX12_reads_242 : decode cX12_reads 242 = .ok (.ifCond .ne 12, 3) := by decide +kernel
theorem dX12_reads_245 : decode cX12_reads 245 = .ok (.aload_n 0, 1) := by decide +kernel
theorem dX12_reads_246 : decode cX12_reads 246 = .ok (.bipush 61, 2) := by decide +kernel
theorem dX12_reads_248 : decode cX12_reads 248 = .ok (.invokevirtual 304, 3) := by decide +kernel
theorem dX12_reads_251 : decode cX12_reads 251 = .ok (.ifCond .eq 44, 3) := by decide +kernel
theorem dX12_reads_254 : decode cX12_reads 254 = .ok (.aload_n 0, 1) := by decide +kernel
theorem dX12_reads_255 : decode cX12_reads 255 = .ok (.getfield 42, 3) := by decide +kernel
theorem dX12_reads_258 : decode cX12_reads 258 = .ok (.iload_n 1, 1) := by decide +kernel
theorem dX12_reads_259 : decode cX12_reads 259 = .ok (.baload, 1) := by decide +kernel
theorem dX12_reads_260 : decode cX12_reads 260 = .ok (.ifCond .ne 35, 3) := by decide +kernel
theorem dX12_reads_263 : decode cX12_reads 263 = .ok (.aload_n 0, 1) := by decide +kernel
theorem dX12_reads_264 : decode cX12_reads 264 = .ok (.aload_n 0, 1) := by decide +kernel
theorem dX12_reads_265 : decode cX12_reads 265 = .ok (.bipush 60, 2) := by decide +kernel
theorem dX12_reads_267 : decode cX12_reads 267 = .ok (.invokevirtual 304, 3) := by decide +kernel
theorem dX12_reads_270 : decode cX12_reads 270 = .ok (.ifCond .eq 8, 3) := by decide +kernel
theorem dX12_reads_273 : decode cX12_reads 273 = .ok (.bipush 24, 2) := by decide +kernel
theorem dX12_reads_275 : decode cX12_reads 275 = .ok (.goto 5, 3) := by decide +kernel
theorem dX12_reads_278 : decode cX12_reads 278 = .ok (.bipush 25, 2) := by decide +kernel
theorem dX12_reads_280 : decode cX12_reads 280 = .ok (.invokevirtual 283, 3) := by decide +kernel
theorem dX12_reads_283 : decode cX12_reads 283 = .ok (.aload_n 0, 1) := by decide +kernel
theorem dX12_reads_284 : decode cX12_reads 284 = .ok (.getfield 42, 3) := by decide +kernel
theorem dX12_reads_287 : decode cX12_reads 287 = .ok (.iload_n 1, 1) := by decide +kernel
theorem dX12_reads_288 : decode cX12_reads 288 = .ok (.iconst 1, 1) := by decide +kernel
theorem dX12_reads_289 : decode cX12_reads 289 = .ok (.bastore, 1) := by decide +kernel
theorem dX12_reads_290 : decode cX12_reads 290 = .ok (.iconst 1, 1) := by decide +kernel
theorem dX12_reads_291 : decode cX12_reads 291 = .ok (.istore_n 2, 1) := by decide +kernel
theorem dX12_reads_292 : decode cX12_reads 292 = .ok (.goto 140, 3) := by decide +kernel
theorem dX12_reads_295 : decode cX12_reads 295 = .ok (.aload_n 0, 1) := by decide +kernel
theorem dX12_reads_296 : decode cX12_reads 296 = .ok (.ldc2_w 310, 3) := by decide +kernel
theorem dX12_reads_299 : decode cX12_reads 299 = .ok (.invokevirtual 300, 3) := by decide +kernel
theorem dX12_reads_302 : decode cX12_reads 302 = .ok (.ifCond .ne 13, 3) := by decide +kernel
theorem dX12_reads_305 : decode cX12_reads 305 = .ok (.aload_n 0, 1) := by decide +kernel
theorem dX12_reads_306 : decode cX12_reads 306 = .ok (.ldc2_w 312, 3) := by decide +kernel
theorem dX12_reads_309 : decode cX12_reads 309 = .ok (.invokevirtual 300, 3) := by decide +kernel
theorem dX12_reads_312 : decode cX12_reads 312 = .ok (.ifCond .eq 36, 3) := by decide +kernel
theorem dX12_reads_315 : decode cX12_reads 315 = .ok (.aload_n 0, 1) := by decide +kernel
theorem dX12_reads_316 : decode cX12_reads 316 = .ok (.aload_n 0, 1) := by decide +kernel
theorem dX12_reads_317 : decode cX12_reads 317 = .ok (.ldc2_w 310, 3) := by decide +kernel
theorem dX12_reads_320 : decode cX12_reads 320 = .ok (.invokevirtual 300, 3) := by decide +kernel
theorem dX12_reads_323 : decode cX12_reads 323 = .ok (.ifCond .eq 8, 3) := by decide +kernel
theorem dX12_reads_326 : decode cX12_reads 326 = .ok (.bipush 26, 2) := by decide +kernel
theorem dX12_reads_328 : decode cX12_reads 328 = .ok (.goto 5, 3) := by decide +kernel
theorem dX12_reads_331 : decode cX12_reads 331 = .ok (.bipush 27, 2) := by decide +kernel
theorem dX12_reads_333 : decode cX12_reads 333 = .ok (.invokevirtual 283, 3) := by decide +kernel
theorem dX12_reads_336 : decode cX12_reads 336 = .ok (.aload_n 0, 1) := by decide +kernel
theorem dX12_reads_337 : decode cX12_reads 337 = .ok (.getfield 42, 3) := by decide +kernel
theorem dX12_reads_340 : decode cX12_reads 340 = .ok (.iload_n 1, 1) := by decide +kernel
theorem dX12_reads_341 : decode cX12_reads 341 = .ok (.iconst 0, 1) := by decide +kernel
theorem dX12_reads_342 : decode cX12_reads 342 = .ok (.bastore, 1) := by decide +kernel
theorem dX12_reads_343 : decode cX12_reads 343 = .ok (.iconst 1, 1) := by decide +kernel
theorem dX12_reads_344 : decode cX12_reads 344 = .ok (.istore_n 2, 1) := by decide +kernel
theorem dX12_reads_345 : decode cX12_reads 345 = .ok (.goto 87, 3) := by decide +kernel
theorem dX12_reads_348 : decode cX12_reads 348 = .ok (.aload_n 0, 1) := by decide +kernel
theorem dX12_reads_349 : decode cX12_reads 349 = .ok (.bipush 41, 2) := by decide +kernel
theorem dX12_reads_351 : decode cX12_reads 351 = .ok (.invokevirtual 304, 3) := by decide +kernel
theorem dX12_reads_354 : decode cX12_reads 354 = .ok (.ifCond .eq 36, 3) := by decide +kernel
theorem dX12_reads_357 : decode cX12_reads 357 = .ok (.iload_n 1, 1) := by decide +kernel
theorem dX12_reads_358 : decode cX12_reads 358 = .ok (.ifCond .le 32, 3) := by decide +kernel
theorem dX12_reads_361 : decode cX12_reads 361 = .ok (.aload_n 0, 1) := by decide +kernel
theorem dX12_reads_362 : decode cX12_reads 362 = .ok (.bipush 29, 2) := by decide +kernel
theorem dX12_reads_364 : decode cX12_reads 364 = .ok (.invokevirtual 283, 3) := by decide +kernel
theorem dX12_reads_367 : decode cX12_reads 367 = .ok (.iinc 1 (-1), 3) := by decide +kernel
theorem dX12_reads_370 : decode cX12_reads 370 = .ok (.iload_n 1, 1) := by decide +kernel
theorem dX12_reads_371 : decode cX12_reads 371 = .ok (.ifCond .le 61, 3) := by decide +kernel
theorem dX12_reads_374 : decode cX12_reads 374 = .ok (.aload_n 0, 1) := by decide +kernel
theorem dX12_reads_375 : decode cX12_reads 375 = .ok (.getfield 39, 3) := by decide +kernel
theorem dX12_reads_378 : decode cX12_reads 378 = .ok (.iload_n 1, 1) := by decide +kernel
theorem dX12_reads_379 : decode cX12_reads 379 = .ok (.iaload, 1) := by decide +kernel
theorem dX12_reads_380 : decode cX12_reads 380 = .ok (.iconst 1, 1) := by decide +kernel
theorem dX12_reads_381 : decode cX12_reads 381 = .ok (.if_icmp .ne 51, 3) := by decide +kernel
theorem dX12_reads_384 : decode cX12_reads 384 = .ok (.iinc 1 (-1), 3) := by decide +kernel
theorem dX12_reads_387 : decode cX12_reads 387 = .ok (.goto (-17), 3) := by decide +kernel
theorem dX12_reads_390 : decode cX12_reads 390 = .ok (.iload_n 1, 1) := by decide +kernel
theorem dX12_reads_391 : decode cX12_reads 391 = .ok (.ifCond .ne 35, 3) := by decide +kernel
theorem dX12_reads_394 : decode cX12_reads 394 = .ok (.aload_n 0, 1) := by decide +kernel
theorem dX12_reads_395 : decode cX12_reads 395 = .ok (.getfield 250, 3) := by decide +kernel
theorem dX12_reads_398 : decode cX12_reads 398 = .ok (.ifCond .eq 13, 3) := by decide +kernel
theorem dX12_reads_401 : decode cX12_reads 401 = .ok (.aload_n 0, 1) := by decide +kernel
theorem dX12_reads_402 : decode cX12_reads 402 = .ok (.getfield 233, 3) := by decide +kernel
theorem dX12_reads_405 : decode cX12_reads 405 = .ok (.ifCond .ne 21, 3) := by decide +kernel
theorem dX12_reads_408 : decode cX12_reads 408 = .ok (.goto 12, 3) := by decide +kernel
theorem dX12_reads_411 : decode cX12_reads 411 = .ok (.aload_n 0, 1) := by decide +kernel
theorem dX12_reads_412 : decode cX12_reads 412 = .ok (.bipush 59, 2) := by decide +kernel
theorem dX12_reads_414 : decode cX12_reads 414 = .ok (.invokevirtual 304, 3) := by decide +kernel
theorem dX12_reads_417 : decode cX12_reads 417 = .ok (.ifCond .eq 9, 3) := by decide +kernel
theorem dX12_reads_420 : decode cX12_reads 420 = .ok (.aload_n 0, 1) := by decide +kernel
theorem dX12_reads_421 : decode cX12_reads 421 = .ok (.invokevirtual 287, 3) := by decide +kernel
theorem dX12_reads_424 : decode cX12_reads 424 = .ok (.iconst 1, 1) := by decide +kernel
theorem dX12_reads_425 : decode cX12_reads 425 = .ok (.ireturn, 1) := by decide +kernel
theorem dX12_reads_426 : decode cX12_reads 426 = .ok (.aload_n 0, 1) := by decide +kernel
theorem dX12_reads_427 : decode cX12_reads 427 = .ok (.iconst 1, 1) := by decide +kernel
theorem dX12_reads_428 : decode cX12_reads 428 = .ok (.invokevirtual 290, 3) := by decide +kernel
theorem dX12_reads_431 : decode cX12_reads 431 = .ok (.ireturn, 1) := by decide +kernel
theorem dX12_reads_432 : decode cX12_reads 432 = .ok (.aload_n 0, 1) := by decide +kernel
theorem dX12_reads_433 : decode cX12_reads 433 = .ok (.invokevirtual 287, 3) := by decide +kernel
theorem dX12_reads_436 : decode cX12_reads 436 = .ok (.goto (-425), 3) := by decide +kernel
def F_X12_reads_b59 (N : Nat) (h : PH) : Option (Int32 × PH) :=
  bI (F_X12_fails (1 : Int32) h) fun r1 h2 =>
  if zb r1 = true then
  some (r1, h2)
  else none
set_option maxRecDepth 20000 in
set_option maxHeartbeats 4000000 in
theorem T_X12_reads_b59 {X : CT} (C : CX X 154 cX12_reads 6 RX12 (some .boolean) 3 63) {r0 : Int32} {h0 : PH} {N : Nat} : ∀ (h : PH), F_X12_reads_b59 N  h = some (r0, h0) → V X (QI X r0 h0) h 59 [some (.ref 103), none, none, none, none, none] [] := by
  intro  h hyp
  unfold F_X12_reads_b59 at hyp
  refine V_aload_n (pc := 59) C dX12_reads_59 rfl ?_
  refine V_iconst (pc := 60) C dX12_reads_60 (v := 1) (by decide) ?_
  obtain ⟨r1, h2, eh2, hyp⟩ := bI_n hyp
  refine V_callI (pc := 61) C dX12_reads_61 lm_X12_290 mk_X12_fails ok_103 rfl (M_X12_fails _ eh2) rfl pd_X12_fails (by decide) (by decide) (by decide) (As := [.int (1 : Int32)]) (rest := []) rfl (Nat.le_of_ble_eq_true rfl) ?_
  obtain ⟨g3, hyp⟩ := gd_n hyp
  cases hyp
  exact V_zret C dX12_reads_64 (zb_n g3).1
def F_X12_reads_b70 (N : Nat) (h : PH) : Option (Int32 × PH) :=
  bI (F_X12_fails (5 : Int32) h) fun r1 h2 =>
  if zb r1 = true then
  some (r1, h2)
  else none
set_option maxRecDepth 20000 in
set_option maxHeartbeats 4000000 in
theorem T_X12_reads_b70 {X : CT} (C : CX X 154 cX12_reads 6 RX12 (some .boolean) 3 63) {r0 : Int32} {h0 : PH} {N : Nat} : ∀ (h : PH), F_X12_reads_b70 N  h = some (r0, h0) → V X (QI X r0 h0) h 70 [some (.ref 103), none, none, none, none, none] [] := by
  intro  h hyp
  unfold F_X12_reads_b70 at hyp
  refine V_aload_n (pc := 70) C dX12_reads_70 rfl ?_
  refine V_iconst (pc := 71) C dX12_reads_71 (v := 5) (by decide) ?_
  obtain ⟨r1, h2, eh2, hyp⟩ := bI_n hyp
  refine V_callI (pc := 72) C dX12_reads_72 lm_X12_290 mk_X12_fails ok_103 rfl (M_X12_fails _ eh2) rfl pd_X12_fails (by decide) (by decide) (by decide) (As := [.int (5 : Int32)]) (rest := []) rfl (Nat.le_of_ble_eq_true rfl) ?_
  obtain ⟨g3, hyp⟩ := gd_n hyp
  cases hyp
  exact V_zret C dX12_reads_75 (zb_n g3).1
def F_X12_reads_b163 (N : Nat) (rc11 : Int32 → Int32 → PH → Option (Int32 × PH)) (x1 : Int32) (x2 : Int32) (h : PH) : Option (Int32 × PH) :=
  bV (F_X12_nextToken N  h) fun h2 =>
  rc11 x1 x2 h2
set_option maxRecDepth 20000 in
set_option maxHeartbeats 4000000 in
theorem T_X12_reads_b163 {X : CT} (C : CX X 154 cX12_reads 6 RX12 (some .boolean) 3 63) {r0 : Int32} {h0 : PH} {N : Nat} {rc11 : Int32 → Int32 → PH → Option (Int32 × PH)} (hr11 : ∀ (x1 : Int32) (x2 : Int32) (h : PH), rc11 x1 x2 h = some (r0, h0) → V X (QI X r0 h0) h 11 [some (.ref 103), some (.int x1), some (.int x2), none, none, none] []) : ∀ (x1 : Int32) (x2 : Int32) (h : PH), F_X12_reads_b163 N rc11 x1 x2 h = some (r0, h0) → V X (QI X r0 h0) h 163 [some (.ref 103), some (.int x1), some (.int x2), none, none, none] [] := by
  intro x1 x2 h hyp
  unfold F_X12_reads_b163 at hyp
  refine V_aload_n (pc := 163) C dX12_reads_163 rfl ?_
  obtain ⟨h2, eh2, hyp⟩ := bV_n hyp
  refine V_callV (pc := 164) C dX12_reads_164 lm_X12_287 mk_X12_nextToken ok_103 rfl (M_X12_nextToken _ eh2) rfl pd_X12_nextToken (by decide) (by decide) (by decide) (As := []) (rest := []) rfl (Nat.le_of_ble_eq_true rfl) ?_
  refine V_goto (pc := 167) C dX12_reads_167 (tgt := 11) (by decide) ?_
  refine V_weak (lv' := [some (.ref 103), some (.int x1), some (.int x2), none, none, none]) (lvle_s (lvle_s (lvle_s (lvle_n (lvle_n (lvle_n lvle_0)))))) ?_
  exact hr11 x1 x2 h2 hyp
def F_X12_reads_b120 (N : Nat) (rc11 : Int32 → Int32 → PH → Option (Int32 × PH)) (x1 : Int32) (x2 : Int32) (s0 : Int32) (s1 : Int32) (h : PH) : Option (Int32 × PH) :=
  if inb s1 7 = true then
  hb (hs h 112 s1.toNatClampNeg s0) fun h2 =>
  if inb x1 7 = true then
  hb (hs h2 113 x1.toNatClampNeg (vp_nar .boolean (0 : Int32))) fun h4 =>
  F_X12_reads_b163 N rc11 x1 x2 h4
  else none
  else none
set_option maxRecDepth 20000 in
set_option maxHeartbeats 4000000 in
theorem T_X12_reads_b120 {X : CT} (C : CX X 154 cX12_reads 6 RX12 (some .boolean) 3 63) {r0 : Int32} {h0 : PH} {N : Nat} {rc11 : Int32 → Int32 → PH → Option (Int32 × PH)} (hr11 : ∀ (x1 : Int32) (x2 : Int32) (h : PH), rc11 x1 x2 h = some (r0, h0) → V X (QI X r0 h0) h 11 [some (.ref 103), some (.int x1), some (.int x2), none, none, none] []) : ∀ (x1 : Int32) (x2 : Int32) (s0 : Int32) (s1 : Int32) (h : PH), F_X12_reads_b120 N rc11 x1 x2 s0 s1 h = some (r0, h0) → V X (QI X r0 h0) h 120 [some (.ref 103), some (.int x1), some (.int x2), none, none, none] [.int s0, .int s1, .ref 112] := by
  intro x1 x2 s0 s1 h hyp
  unfold F_X12_reads_b120 at hyp
  obtain ⟨g1, hyp⟩ := gd_n hyp
  obtain ⟨h2, eh2, hyp⟩ := hb_n hyp
  refine V_iast (pc := 120) C dX12_reads_120 ak_112 g1 eh2 ?_
  refine V_aload_n (pc := 121) C dX12_reads_121 rfl ?_
  refine V_getR (pc := 122) C dX12_reads_122 lf_X12_42 fk_103_22 ?_
  refine V_iload_n (pc := 125) C dX12_reads_125 rfl ?_
  refine V_iconst (pc := 126) C dX12_reads_126 (v := 0) (by decide) ?_
  obtain ⟨g3, hyp⟩ := gd_n hyp
  obtain ⟨h4, eh4, hyp⟩ := hb_n hyp
  refine V_zast (pc := 127) C dX12_reads_127 ak_113 g3 eh4 ?_
  refine V_goto (pc := 128) C dX12_reads_128 (tgt := 163) (by decide) ?_
  refine V_weak (lv' := [some (.ref 103), some (.int x1), some (.int x2), none, none, none]) (lvle_s (lvle_s (lvle_s (lvle_n (lvle_n (lvle_n lvle_0)))))) ?_
  exact (T_X12_reads_b163 C hr11) x1 x2 h4 hyp
def F_X12_reads_b99 (N : Nat) (rc11 : Int32 → Int32 → PH → Option (Int32 × PH)) (x1 : Int32) (x2 : Int32) (x4 : Int32) (s0 : Int32) (h : PH) : Option (Int32 × PH) :=
  bV (F_X12_puts s0 h) fun h2 =>
  ib (x1 + (1 : Int32)) fun v3 =>
  if x4 = 0 then
    F_X12_reads_b120 N rc11 v3 x2 (2 : Int32) v3 h2
  else
    F_X12_reads_b120 N rc11 v3 x2 (1 : Int32) v3 h2
set_option maxRecDepth 20000 in
set_option maxHeartbeats 4000000 in
theorem T_X12_reads_b99 {X : CT} (C : CX X 154 cX12_reads 6 RX12 (some .boolean) 3 63) {r0 : Int32} {h0 : PH} {N : Nat} {rc11 : Int32 → Int32 → PH → Option (Int32 × PH)} (hr11 : ∀ (x1 : Int32) (x2 : Int32) (h : PH), rc11 x1 x2 h = some (r0, h0) → V X (QI X r0 h0) h 11 [some (.ref 103), some (.int x1), some (.int x2), none, none, none] []) : ∀ (x1 : Int32) (x2 : Int32) (x4 : Int32) (s0 : Int32) (h : PH), F_X12_reads_b99 N rc11 x1 x2 x4 s0 h = some (r0, h0) → V X (QI X r0 h0) h 99 [some (.ref 103), some (.int x1), some (.int x2), none, some (.int x4), none] [.int s0, .ref 103] := by
  intro x1 x2 x4 s0 h hyp
  unfold F_X12_reads_b99 at hyp
  obtain ⟨h2, eh2, hyp⟩ := bV_n hyp
  refine V_callV (pc := 99) C dX12_reads_99 lm_X12_283 mk_X12_puts ok_103 rfl (M_X12_puts _ eh2) rfl pd_X12_puts (by decide) (by decide) (by decide) (As := [.int s0]) (rest := []) rfl (Nat.le_of_ble_eq_true rfl) ?_
  obtain ⟨v3, ev3, hyp⟩ := ib_n hyp
  refine V_iinc (pc := 102) C dX12_reads_102 (v := v3) rfl (by rw [ev3]; rfl) (by decide) rfl ?_
  refine V_aload_n (pc := 105) C dX12_reads_105 rfl ?_
  refine V_getR (pc := 106) C dX12_reads_106 lf_X12_39 fk_103_21 ?_
  refine V_iload_n (pc := 109) C dX12_reads_109 rfl ?_
  refine V_iload (pc := 110) C dX12_reads_110 rfl ?_
  refine V_if_eq (pc := 112) C dX12_reads_112 (tgt := 119) (by decide) (fun q4 => ?_) (fun q4 => ?_)
  · replace hyp := (if_pos q4).symm.trans hyp
    refine V_iconst (pc := 119) C dX12_reads_119 (v := 2) (by decide) ?_
    refine V_weak (lv' := [some (.ref 103), some (.int v3), some (.int x2), none, none, none]) (lvle_s (lvle_s (lvle_s (lvle_n (lvle_n (lvle_n lvle_0)))))) ?_
    exact (T_X12_reads_b120 C hr11) v3 x2 (2 : Int32) v3 h2 hyp
  · replace hyp := (if_neg q4).symm.trans hyp
    refine V_iconst (pc := 115) C dX12_reads_115 (v := 1) (by decide) ?_
    refine V_goto (pc := 116) C dX12_reads_116 (tgt := 120) (by decide) ?_
    refine V_weak (lv' := [some (.ref 103), some (.int v3), some (.int x2), none, none, none]) (lvle_s (lvle_s (lvle_s (lvle_n (lvle_n (lvle_n lvle_0)))))) ?_
    exact (T_X12_reads_b120 C hr11) v3 x2 (1 : Int32) v3 h2 hyp
def F_X12_reads_b86 (N : Nat) (rc11 : Int32 → Int32 → PH → Option (Int32 × PH)) (x1 : Int32) (x2 : Int32) (x4 : Int32) (h : PH) : Option (Int32 × PH) :=
  if x4 = 0 then
    F_X12_reads_b99 N rc11 x1 x2 x4 (28 : Int32) h
  else
    F_X12_reads_b99 N rc11 x1 x2 x4 (30 : Int32) h
set_option maxRecDepth 20000 in
set_option maxHeartbeats 4000000 in
theorem T_X12_reads_b86 {X : CT} (C : CX X 154 cX12_reads 6 RX12 (some .boolean) 3 63) {r0 : Int32} {h0 : PH} {N : Nat} {rc11 : Int32 → Int32 → PH → Option (Int32 × PH)} (hr11 : ∀ (x1 : Int32) (x2 : Int32) (h : PH), rc11 x1 x2 h = some (r0, h0) → V X (QI X r0 h0) h 11 [some (.ref 103), some (.int x1), some (.int x2), none, none, none] []) : ∀ (x1 : Int32) (x2 : Int32) (x4 : Int32) (h : PH), F_X12_reads_b86 N rc11 x1 x2 x4 h = some (r0, h0) → V X (QI X r0 h0) h 86 [some (.ref 103), some (.int x1), some (.int x2), none, some (.int x4), none] [] := by
  intro x1 x2 x4 h hyp
  unfold F_X12_reads_b86 at hyp
  refine V_aload_n (pc := 86) C dX12_reads_86 rfl ?_
  refine V_iload (pc := 87) C dX12_reads_87 rfl ?_
  refine V_if_eq (pc := 89) C dX12_reads_89 (tgt := 97) (by decide) (fun q1 => ?_) (fun q1 => ?_)
  · replace hyp := (if_pos q1).symm.trans hyp
    refine V_bipush (pc := 97) C dX12_reads_97 (v := 28) (by decide) ?_
    refine V_weak (lv' := [some (.ref 103), some (.int x1), some (.int x2), none, some (.int x4), none]) (lvle_s (lvle_s (lvle_s (lvle_n (lvle_s (lvle_n lvle_0)))))) ?_
    exact (T_X12_reads_b99 C hr11) x1 x2 x4 (28 : Int32) h hyp
  · replace hyp := (if_neg q1).symm.trans hyp
    refine V_bipush (pc := 92) C dX12_reads_92 (v := 30) (by decide) ?_
    refine V_goto (pc := 94) C dX12_reads_94 (tgt := 99) (by decide) ?_
    refine V_weak (lv' := [some (.ref 103), some (.int x1), some (.int x2), none, some (.int x4), none]) (lvle_s (lvle_s (lvle_s (lvle_n (lvle_s (lvle_n lvle_0)))))) ?_
    exact (T_X12_reads_b99 C hr11) x1 x2 x4 (30 : Int32) h hyp
def F_X12_reads_b143 (N : Nat) (rc11 : Int32 → Int32 → PH → Option (Int32 × PH)) : Nat → Int32 → Int32 → PH → Option (Int32 × PH)
  | 0, _, _, _ => none
  | n + 1, x1, x2, h =>
    if x1 ≤ 0 then
      F_X12_reads_b163 N rc11 x1 x2 h
    else
      if inb x1 7 = true then
      if (h.1 112 x1.toNatClampNeg) = (1 : Int32) then
        ib (x1 + (-1 : Int32)) fun v4 =>
        F_X12_reads_b143 N rc11 n v4 x2 h
      else
        F_X12_reads_b163 N rc11 x1 x2 h
      else none
set_option maxRecDepth 20000 in
set_option maxHeartbeats 4000000 in
theorem T_X12_reads_b143 {X : CT} (C : CX X 154 cX12_reads 6 RX12 (some .boolean) 3 63) {r0 : Int32} {h0 : PH} {N : Nat} {rc11 : Int32 → Int32 → PH → Option (Int32 × PH)} (hr11 : ∀ (x1 : Int32) (x2 : Int32) (h : PH), rc11 x1 x2 h = some (r0, h0) → V X (QI X r0 h0) h 11 [some (.ref 103), some (.int x1), some (.int x2), none, none, none] []) : ∀ (n : Nat) (x1 : Int32) (x2 : Int32) (h : PH), F_X12_reads_b143 N rc11 n x1 x2 h = some (r0, h0) → V X (QI X r0 h0) h 143 [some (.ref 103), some (.int x1), some (.int x2), none, none, none] [] := by
  intro n
  induction n with
  | zero =>
    intro x1 x2 h hyp
    cases hyp
  | succ n ih =>
    intro x1 x2 h hyp
    unfold F_X12_reads_b143 at hyp
    refine V_iload_n (pc := 143) C dX12_reads_143 rfl ?_
    refine V_if_le (pc := 144) C dX12_reads_144 (tgt := 163) (by decide) (fun q1 => ?_) (fun q1 => ?_)
    · replace hyp := (if_pos q1).symm.trans hyp
      refine V_weak (lv' := [some (.ref 103), some (.int x1), some (.int x2), none, none, none]) (lvle_s (lvle_s (lvle_s (lvle_n (lvle_n (lvle_n lvle_0)))))) ?_
      exact (T_X12_reads_b163 C hr11) x1 x2 h hyp
    · replace hyp := (if_neg q1).symm.trans hyp
      refine V_aload_n (pc := 147) C dX12_reads_147 rfl ?_
      refine V_getR (pc := 148) C dX12_reads_148 lf_X12_39 fk_103_21 ?_
      refine V_iload_n (pc := 151) C dX12_reads_151 rfl ?_
      obtain ⟨g2, hyp⟩ := gd_n hyp
      refine V_iald (pc := 152) C dX12_reads_152 ak_112 g2 ?_
      refine V_iconst (pc := 153) C dX12_reads_153 (v := 1) (by decide) ?_
      refine V_icmp_ne (pc := 154) C dX12_reads_154 (tgt := 163) (by decide) (fun q3 => ?_) (fun q3 => ?_)
      · replace hyp := (if_neg q3).symm.trans hyp
        refine V_weak (lv' := [some (.ref 103), some (.int x1), some (.int x2), none, none, none]) (lvle_s (lvle_s (lvle_s (lvle_n (lvle_n (lvle_n lvle_0)))))) ?_
        exact (T_X12_reads_b163 C hr11) x1 x2 h hyp
      · replace hyp := (if_pos q3).symm.trans hyp
        obtain ⟨v4, ev4, hyp⟩ := ib_n hyp
        refine V_iinc (pc := 157) C dX12_reads_157 (v := v4) rfl (by rw [ev4]; rfl) (by decide) rfl ?_
        refine V_goto (pc := 160) C dX12_reads_160 (tgt := 143) (by decide) ?_
        refine V_weak (lv' := [some (.ref 103), some (.int v4), some (.int x2), none, none, none]) (lvle_s (lvle_s (lvle_s (lvle_n (lvle_n (lvle_n lvle_0)))))) ?_
        exact ih v4 x2 h hyp
def F_X12_reads_b65 (N : Nat) (rc11 : Int32 → Int32 → PH → Option (Int32 × PH)) (x1 : Int32) (x2 : Int32) (x3 : Int32) (x4 : Int32) (x5 : Int32) (h : PH) : Option (Int32 × PH) :=
  if x1 = (5 : Int32) then
    F_X12_reads_b70 N  h
  else
    if x4 = 0 then
      if x5 = 0 then
        bI (F_X12_readsFact N x3 h) fun r4 h5 =>
        if r4 = 0 then
          some ((0 : Int32), h5)
        else
          F_X12_reads_b143 N rc11 N x1 (0 : Int32) h5
      else
        F_X12_reads_b86 N rc11 x1 x2 x4 h
    else
      F_X12_reads_b86 N rc11 x1 x2 x4 h
set_option maxRecDepth 20000 in
set_option maxHeartbeats 4000000 in
theorem T_X12_reads_b65 {X : CT} (C : CX X 154 cX12_reads 6 RX12 (some .boolean) 3 63) {r0 : Int32} {h0 : PH} {N : Nat} {rc11 : Int32 → Int32 → PH → Option (Int32 × PH)} (hr11 : ∀ (x1 : Int32) (x2 : Int32) (h : PH), rc11 x1 x2 h = some (r0, h0) → V X (QI X r0 h0) h 11 [some (.ref 103), some (.int x1), some (.int x2), none, none, none] []) : ∀ (x1 : Int32) (x2 : Int32) (x3 : Int32) (x4 : Int32) (x5 : Int32) (h : PH), F_X12_reads_b65 N rc11 x1 x2 x3 x4 x5 h = some (r0, h0) → V X (QI X r0 h0) h 65 [some (.ref 103), some (.int x1), some (.int x2), some (.int x3), some (.int x4), some (.int x5)] [] := by
  intro x1 x2 x3 x4 x5 h hyp
  unfold F_X12_reads_b65 at hyp
  refine V_iload_n (pc := 65) C dX12_reads_65 rfl ?_
  refine V_iconst (pc := 66) C dX12_reads_66 (v := 5) (by decide) ?_
  refine V_icmp_ne (pc := 67) C dX12_reads_67 (tgt := 76) (by decide) (fun q1 => ?_) (fun q1 => ?_)
  · replace hyp := (if_neg q1).symm.trans hyp
    refine V_iload (pc := 76) C dX12_reads_76 rfl ?_
    refine V_if_ne (pc := 78) C dX12_reads_78 (tgt := 86) (by decide) (fun q2 => ?_) (fun q2 => ?_)
    · replace hyp := (if_neg q2).symm.trans hyp
      refine V_weak (lv' := [some (.ref 103), some (.int x1), some (.int x2), none, some (.int x4), none]) (lvle_s (lvle_s (lvle_s (lvle_n (lvle_s (lvle_n lvle_0)))))) ?_
      exact (T_X12_reads_b86 C hr11) x1 x2 x4 h hyp
    · replace hyp := (if_pos q2).symm.trans hyp
      refine V_iload (pc := 81) C dX12_reads_81 rfl ?_
      refine V_if_eq (pc := 83) C dX12_reads_83 (tgt := 131) (by decide) (fun q3 => ?_) (fun q3 => ?_)
      · replace hyp := (if_pos q3).symm.trans hyp
        refine V_aload_n (pc := 131) C dX12_reads_131 rfl ?_
        refine V_iload_n (pc := 132) C dX12_reads_132 rfl ?_
        obtain ⟨r4, h5, eh5, hyp⟩ := bI_n hyp
        refine V_callI (pc := 133) C dX12_reads_133 lm_X12_307 mk_X12_readsFact ok_103 rfl (M_X12_readsFact _ eh5) rfl pd_X12_readsFact (by decide) (by decide) (by decide) (As := [.int x3]) (rest := []) rfl (Nat.le_of_ble_eq_true rfl) ?_
        refine V_if_ne (pc := 136) C dX12_reads_136 (tgt := 141) (by decide) (fun q6 => ?_) (fun q6 => ?_)
        · replace hyp := (if_neg q6).symm.trans hyp
          refine V_iconst (pc := 141) C dX12_reads_141 (v := 0) (by decide) ?_
          refine V_istore_n (pc := 142) C dX12_reads_142 (by decide) rfl ?_
          refine V_weak (lv' := [some (.ref 103), some (.int x1), some (.int (0 : Int32)), none, none, none]) (lvle_s (lvle_s (lvle_s (lvle_n (lvle_n (lvle_n lvle_0)))))) ?_
          exact (T_X12_reads_b143 C hr11) N x1 (0 : Int32) h5 hyp
        · replace hyp := (if_pos q6).symm.trans hyp
          refine V_iconst (pc := 139) C dX12_reads_139 (v := 0) (by decide) ?_
          cases hyp
          exact V_zret C dX12_reads_140 rfl
      · replace hyp := (if_neg q3).symm.trans hyp
        refine V_weak (lv' := [some (.ref 103), some (.int x1), some (.int x2), none, some (.int x4), none]) (lvle_s (lvle_s (lvle_s (lvle_n (lvle_s (lvle_n lvle_0)))))) ?_
        exact (T_X12_reads_b86 C hr11) x1 x2 x4 h hyp
  · replace hyp := (if_pos q1).symm.trans hyp
    refine V_weak (lv' := [some (.ref 103), none, none, none, none, none]) (lvle_s (lvle_n (lvle_n (lvle_n (lvle_n (lvle_n lvle_0)))))) ?_
    exact (T_X12_reads_b70 C) h hyp
def F_X12_reads_b432 (N : Nat) (rc11 : Int32 → Int32 → PH → Option (Int32 × PH)) (x1 : Int32) (x2 : Int32) (h : PH) : Option (Int32 × PH) :=
  bV (F_X12_nextToken N  h) fun h2 =>
  rc11 x1 x2 h2
set_option maxRecDepth 20000 in
set_option maxHeartbeats 4000000 in
theorem T_X12_reads_b432 {X : CT} (C : CX X 154 cX12_reads 6 RX12 (some .boolean) 3 63) {r0 : Int32} {h0 : PH} {N : Nat} {rc11 : Int32 → Int32 → PH → Option (Int32 × PH)} (hr11 : ∀ (x1 : Int32) (x2 : Int32) (h : PH), rc11 x1 x2 h = some (r0, h0) → V X (QI X r0 h0) h 11 [some (.ref 103), some (.int x1), some (.int x2), none, none, none] []) : ∀ (x1 : Int32) (x2 : Int32) (h : PH), F_X12_reads_b432 N rc11 x1 x2 h = some (r0, h0) → V X (QI X r0 h0) h 432 [some (.ref 103), some (.int x1), some (.int x2), none, none, none] [] := by
  intro x1 x2 h hyp
  unfold F_X12_reads_b432 at hyp
  refine V_aload_n (pc := 432) C dX12_reads_432 rfl ?_
  obtain ⟨h2, eh2, hyp⟩ := bV_n hyp
  refine V_callV (pc := 433) C dX12_reads_433 lm_X12_287 mk_X12_nextToken ok_103 rfl (M_X12_nextToken _ eh2) rfl pd_X12_nextToken (by decide) (by decide) (by decide) (As := []) (rest := []) rfl (Nat.le_of_ble_eq_true rfl) ?_
  refine V_goto (pc := 436) C dX12_reads_436 (tgt := 11) (by decide) ?_
  refine V_weak (lv' := [some (.ref 103), some (.int x1), some (.int x2), none, none, none]) (lvle_s (lvle_s (lvle_s (lvle_n (lvle_n (lvle_n lvle_0)))))) ?_
  exact hr11 x1 x2 h2 hyp
def F_X12_reads_b228 (N : Nat) (rc11 : Int32 → Int32 → PH → Option (Int32 × PH)) (x1 : Int32) (s0 : Int32) (h : PH) : Option (Int32 × PH) :=
  bV (F_X12_puts s0 h) fun h2 =>
  F_X12_reads_b432 N rc11 x1 (1 : Int32) h2
set_option maxRecDepth 20000 in
set_option maxHeartbeats 4000000 in
theorem T_X12_reads_b228 {X : CT} (C : CX X 154 cX12_reads 6 RX12 (some .boolean) 3 63) {r0 : Int32} {h0 : PH} {N : Nat} {rc11 : Int32 → Int32 → PH → Option (Int32 × PH)} (hr11 : ∀ (x1 : Int32) (x2 : Int32) (h : PH), rc11 x1 x2 h = some (r0, h0) → V X (QI X r0 h0) h 11 [some (.ref 103), some (.int x1), some (.int x2), none, none, none] []) : ∀ (x1 : Int32) (s0 : Int32) (h : PH), F_X12_reads_b228 N rc11 x1 s0 h = some (r0, h0) → V X (QI X r0 h0) h 228 [some (.ref 103), some (.int x1), none, none, none, none] [.int s0, .ref 103] := by
  intro x1 s0 h hyp
  unfold F_X12_reads_b228 at hyp
  obtain ⟨h2, eh2, hyp⟩ := bV_n hyp
  refine V_callV (pc := 228) C dX12_reads_228 lm_X12_283 mk_X12_puts ok_103 rfl (M_X12_puts _ eh2) rfl pd_X12_puts (by decide) (by decide) (by decide) (As := [.int s0]) (rest := []) rfl (Nat.le_of_ble_eq_true rfl) ?_
  refine V_iconst (pc := 231) C dX12_reads_231 (v := 1) (by decide) ?_
  refine V_istore_n (pc := 232) C dX12_reads_232 (by decide) rfl ?_
  refine V_goto (pc := 233) C dX12_reads_233 (tgt := 432) (by decide) ?_
  refine V_weak (lv' := [some (.ref 103), some (.int x1), some (.int (1 : Int32)), none, none, none]) (lvle_s (lvle_s (lvle_s (lvle_n (lvle_n (lvle_n lvle_0)))))) ?_
  exact (T_X12_reads_b432 C hr11) x1 (1 : Int32) h2 hyp
def F_X12_reads_b197 (N : Nat) (rc11 : Int32 → Int32 → PH → Option (Int32 × PH)) (x1 : Int32) (h : PH) : Option (Int32 × PH) :=
  bI (F_X12_isSign (43 : Int32) h) fun r1 h2 =>
  if r1 = 0 then
    bI (F_X12_isSign (45 : Int32) h2) fun r4 h5 =>
    if r4 = 0 then
      F_X12_reads_b228 N rc11 x1 (22 : Int32) h5
    else
      F_X12_reads_b228 N rc11 x1 (21 : Int32) h5
  else
    F_X12_reads_b228 N rc11 x1 (20 : Int32) h2
set_option maxRecDepth 20000 in
set_option maxHeartbeats 4000000 in
theorem T_X12_reads_b197 {X : CT} (C : CX X 154 cX12_reads 6 RX12 (some .boolean) 3 63) {r0 : Int32} {h0 : PH} {N : Nat} {rc11 : Int32 → Int32 → PH → Option (Int32 × PH)} (hr11 : ∀ (x1 : Int32) (x2 : Int32) (h : PH), rc11 x1 x2 h = some (r0, h0) → V X (QI X r0 h0) h 11 [some (.ref 103), some (.int x1), some (.int x2), none, none, none] []) : ∀ (x1 : Int32) (h : PH), F_X12_reads_b197 N rc11 x1 h = some (r0, h0) → V X (QI X r0 h0) h 197 [some (.ref 103), some (.int x1), none, none, none, none] [] := by
  intro x1 h hyp
  unfold F_X12_reads_b197 at hyp
  refine V_aload_n (pc := 197) C dX12_reads_197 rfl ?_
  refine V_aload_n (pc := 198) C dX12_reads_198 rfl ?_
  refine V_bipush (pc := 199) C dX12_reads_199 (v := 43) (by decide) ?_
  obtain ⟨r1, h2, eh2, hyp⟩ := bI_n hyp
  refine V_callI (pc := 201) C dX12_reads_201 lm_X12_304 mk_X12_isSign ok_103 rfl (M_X12_isSign _ eh2) rfl pd_X12_isSign (by decide) (by decide) (by decide) (As := [.int (43 : Int32)]) (rest := [.ref 103]) rfl (Nat.le_of_ble_eq_true rfl) ?_
  refine V_if_eq (pc := 204) C dX12_reads_204 (tgt := 212) (by decide) (fun q3 => ?_) (fun q3 => ?_)
  · replace hyp := (if_pos q3).symm.trans hyp
    refine V_aload_n (pc := 212) C dX12_reads_212 rfl ?_
    refine V_bipush (pc := 213) C dX12_reads_213 (v := 45) (by decide) ?_
    obtain ⟨r4, h5, eh5, hyp⟩ := bI_n hyp
    refine V_callI (pc := 215) C dX12_reads_215 lm_X12_304 mk_X12_isSign ok_103 rfl (M_X12_isSign _ eh5) rfl pd_X12_isSign (by decide) (by decide) (by decide) (As := [.int (45 : Int32)]) (rest := [.ref 103]) rfl (Nat.le_of_ble_eq_true rfl) ?_
    refine V_if_eq (pc := 218) C dX12_reads_218 (tgt := 226) (by decide) (fun q6 => ?_) (fun q6 => ?_)
    · replace hyp := (if_pos q6).symm.trans hyp
      refine V_bipush (pc := 226) C dX12_reads_226 (v := 22) (by decide) ?_
      refine V_weak (lv' := [some (.ref 103), some (.int x1), none, none, none, none]) (lvle_s (lvle_s (lvle_n (lvle_n (lvle_n (lvle_n lvle_0)))))) ?_
      exact (T_X12_reads_b228 C hr11) x1 (22 : Int32) h5 hyp
    · replace hyp := (if_neg q6).symm.trans hyp
      refine V_bipush (pc := 221) C dX12_reads_221 (v := 21) (by decide) ?_
      refine V_goto (pc := 223) C dX12_reads_223 (tgt := 228) (by decide) ?_
      refine V_weak (lv' := [some (.ref 103), some (.int x1), none, none, none, none]) (lvle_s (lvle_s (lvle_n (lvle_n (lvle_n (lvle_n lvle_0)))))) ?_
      exact (T_X12_reads_b228 C hr11) x1 (21 : Int32) h5 hyp
  · replace hyp := (if_neg q3).symm.trans hyp
    refine V_bipush (pc := 207) C dX12_reads_207 (v := 20) (by decide) ?_
    refine V_goto (pc := 209) C dX12_reads_209 (tgt := 228) (by decide) ?_
    refine V_weak (lv' := [some (.ref 103), some (.int x1), none, none, none, none]) (lvle_s (lvle_s (lvle_n (lvle_n (lvle_n (lvle_n lvle_0)))))) ?_
    exact (T_X12_reads_b228 C hr11) x1 (20 : Int32) h2 hyp
def F_X12_reads_b280 (N : Nat) (rc11 : Int32 → Int32 → PH → Option (Int32 × PH)) (x1 : Int32) (s0 : Int32) (h : PH) : Option (Int32 × PH) :=
  bV (F_X12_puts s0 h) fun h2 =>
  if inb x1 7 = true then
  hb (hs h2 113 x1.toNatClampNeg (vp_nar .boolean (1 : Int32))) fun h4 =>
  F_X12_reads_b432 N rc11 x1 (1 : Int32) h4
  else none
set_option maxRecDepth 20000 in
set_option maxHeartbeats 4000000 in
theorem T_X12_reads_b280 {X : CT} (C : CX X 154 cX12_reads 6 RX12 (some .boolean) 3 63) {r0 : Int32} {h0 : PH} {N : Nat} {rc11 : Int32 → Int32 → PH → Option (Int32 × PH)} (hr11 : ∀ (x1 : Int32) (x2 : Int32) (h : PH), rc11 x1 x2 h = some (r0, h0) → V X (QI X r0 h0) h 11 [some (.ref 103), some (.int x1), some (.int x2), none, none, none] []) : ∀ (x1 : Int32) (s0 : Int32) (h : PH), F_X12_reads_b280 N rc11 x1 s0 h = some (r0, h0) → V X (QI X r0 h0) h 280 [some (.ref 103), some (.int x1), none, none, none, none] [.int s0, .ref 103] := by
  intro x1 s0 h hyp
  unfold F_X12_reads_b280 at hyp
  obtain ⟨h2, eh2, hyp⟩ := bV_n hyp
  refine V_callV (pc := 280) C dX12_reads_280 lm_X12_283 mk_X12_puts ok_103 rfl (M_X12_puts _ eh2) rfl pd_X12_puts (by decide) (by decide) (by decide) (As := [.int s0]) (rest := []) rfl (Nat.le_of_ble_eq_true rfl) ?_
  refine V_aload_n (pc := 283) C dX12_reads_283 rfl ?_
  refine V_getR (pc := 284) C dX12_reads_284 lf_X12_42 fk_103_22 ?_
  refine V_iload_n (pc := 287) C dX12_reads_287 rfl ?_
  refine V_iconst (pc := 288) C dX12_reads_288 (v := 1) (by decide) ?_
  obtain ⟨g3, hyp⟩ := gd_n hyp
  obtain ⟨h4, eh4, hyp⟩ := hb_n hyp
  refine V_zast (pc := 289) C dX12_reads_289 ak_113 g3 eh4 ?_
  refine V_iconst (pc := 290) C dX12_reads_290 (v := 1) (by decide) ?_
  refine V_istore_n (pc := 291) C dX12_reads_291 (by decide) rfl ?_
  refine V_goto (pc := 292) C dX12_reads_292 (tgt := 432) (by decide) ?_
  refine V_weak (lv' := [some (.ref 103), some (.int x1), some (.int (1 : Int32)), none, none, none]) (lvle_s (lvle_s (lvle_s (lvle_n (lvle_n (lvle_n lvle_0)))))) ?_
  exact (T_X12_reads_b432 C hr11) x1 (1 : Int32) h4 hyp
def F_X12_reads_b333 (N : Nat) (rc11 : Int32 → Int32 → PH → Option (Int32 × PH)) (x1 : Int32) (s0 : Int32) (h : PH) : Option (Int32 × PH) :=
  bV (F_X12_puts s0 h) fun h2 =>
  if inb x1 7 = true then
  hb (hs h2 113 x1.toNatClampNeg (vp_nar .boolean (0 : Int32))) fun h4 =>
  F_X12_reads_b432 N rc11 x1 (1 : Int32) h4
  else none
set_option maxRecDepth 20000 in
set_option maxHeartbeats 4000000 in
theorem T_X12_reads_b333 {X : CT} (C : CX X 154 cX12_reads 6 RX12 (some .boolean) 3 63) {r0 : Int32} {h0 : PH} {N : Nat} {rc11 : Int32 → Int32 → PH → Option (Int32 × PH)} (hr11 : ∀ (x1 : Int32) (x2 : Int32) (h : PH), rc11 x1 x2 h = some (r0, h0) → V X (QI X r0 h0) h 11 [some (.ref 103), some (.int x1), some (.int x2), none, none, none] []) : ∀ (x1 : Int32) (s0 : Int32) (h : PH), F_X12_reads_b333 N rc11 x1 s0 h = some (r0, h0) → V X (QI X r0 h0) h 333 [some (.ref 103), some (.int x1), none, none, none, none] [.int s0, .ref 103] := by
  intro x1 s0 h hyp
  unfold F_X12_reads_b333 at hyp
  obtain ⟨h2, eh2, hyp⟩ := bV_n hyp
  refine V_callV (pc := 333) C dX12_reads_333 lm_X12_283 mk_X12_puts ok_103 rfl (M_X12_puts _ eh2) rfl pd_X12_puts (by decide) (by decide) (by decide) (As := [.int s0]) (rest := []) rfl (Nat.le_of_ble_eq_true rfl) ?_
  refine V_aload_n (pc := 336) C dX12_reads_336 rfl ?_
  refine V_getR (pc := 337) C dX12_reads_337 lf_X12_42 fk_103_22 ?_
  refine V_iload_n (pc := 340) C dX12_reads_340 rfl ?_
  refine V_iconst (pc := 341) C dX12_reads_341 (v := 0) (by decide) ?_
  obtain ⟨g3, hyp⟩ := gd_n hyp
  obtain ⟨h4, eh4, hyp⟩ := hb_n hyp
  refine V_zast (pc := 342) C dX12_reads_342 ak_113 g3 eh4 ?_
  refine V_iconst (pc := 343) C dX12_reads_343 (v := 1) (by decide) ?_
  refine V_istore_n (pc := 344) C dX12_reads_344 (by decide) rfl ?_
  refine V_goto (pc := 345) C dX12_reads_345 (tgt := 432) (by decide) ?_
  refine V_weak (lv' := [some (.ref 103), some (.int x1), some (.int (1 : Int32)), none, none, none]) (lvle_s (lvle_s (lvle_s (lvle_n (lvle_n (lvle_n lvle_0)))))) ?_
  exact (T_X12_reads_b432 C hr11) x1 (1 : Int32) h4 hyp
def F_X12_reads_b315 (N : Nat) (rc11 : Int32 → Int32 → PH → Option (Int32 × PH)) (x1 : Int32) (h : PH) : Option (Int32 × PH) :=
  bI (F_X12_isWord (1111 : Int64) h) fun r1 h2 =>
  if r1 = 0 then
    F_X12_reads_b333 N rc11 x1 (27 : Int32) h2
  else
    F_X12_reads_b333 N rc11 x1 (26 : Int32) h2
set_option maxRecDepth 20000 in
set_option maxHeartbeats 4000000 in
theorem T_X12_reads_b315 {X : CT} (C : CX X 154 cX12_reads 6 RX12 (some .boolean) 3 63) {r0 : Int32} {h0 : PH} {N : Nat} {rc11 : Int32 → Int32 → PH → Option (Int32 × PH)} (hr11 : ∀ (x1 : Int32) (x2 : Int32) (h : PH), rc11 x1 x2 h = some (r0, h0) → V X (QI X r0 h0) h 11 [some (.ref 103), some (.int x1), some (.int x2), none, none, none] []) : ∀ (x1 : Int32) (h : PH), F_X12_reads_b315 N rc11 x1 h = some (r0, h0) → V X (QI X r0 h0) h 315 [some (.ref 103), some (.int x1), none, none, none, none] [] := by
  intro x1 h hyp
  unfold F_X12_reads_b315 at hyp
  refine V_aload_n (pc := 315) C dX12_reads_315 rfl ?_
  refine V_aload_n (pc := 316) C dX12_reads_316 rfl ?_
  refine V_ldc2 (pc := 317) C dX12_reads_317 ll_X12_310 ?_
  obtain ⟨r1, h2, eh2, hyp⟩ := bI_n hyp
  refine V_callI (pc := 320) C dX12_reads_320 lm_X12_300 mk_X12_isWord ok_103 rfl (M_X12_isWord _ eh2) rfl pd_X12_isWord (by decide) (by decide) (by decide) (As := [.long (1111 : Int64)]) (rest := [.ref 103]) rfl (Nat.le_of_ble_eq_true rfl) ?_
  refine V_if_eq (pc := 323) C dX12_reads_323 (tgt := 331) (by decide) (fun q3 => ?_) (fun q3 => ?_)
  · replace hyp := (if_pos q3).symm.trans hyp
    refine V_bipush (pc := 331) C dX12_reads_331 (v := 27) (by decide) ?_
    refine V_weak (lv' := [some (.ref 103), some (.int x1), none, none, none, none]) (lvle_s (lvle_s (lvle_n (lvle_n (lvle_n (lvle_n lvle_0)))))) ?_
    exact (T_X12_reads_b333 C hr11) x1 (27 : Int32) h2 hyp
  · replace hyp := (if_neg q3).symm.trans hyp
    refine V_bipush (pc := 326) C dX12_reads_326 (v := 26) (by decide) ?_
    refine V_goto (pc := 328) C dX12_reads_328 (tgt := 333) (by decide) ?_
    refine V_weak (lv' := [some (.ref 103), some (.int x1), none, none, none, none]) (lvle_s (lvle_s (lvle_n (lvle_n (lvle_n (lvle_n lvle_0)))))) ?_
    exact (T_X12_reads_b333 C hr11) x1 (26 : Int32) h2 hyp
def F_X12_reads_b370 (N : Nat) (rc11 : Int32 → Int32 → PH → Option (Int32 × PH)) : Nat → Int32 → Int32 → PH → Option (Int32 × PH)
  | 0, _, _, _ => none
  | n + 1, x1, x2, h =>
    if x1 ≤ 0 then
      F_X12_reads_b432 N rc11 x1 x2 h
    else
      if inb x1 7 = true then
      if (h.1 112 x1.toNatClampNeg) = (1 : Int32) then
        ib (x1 + (-1 : Int32)) fun v4 =>
        F_X12_reads_b370 N rc11 n v4 x2 h
      else
        F_X12_reads_b432 N rc11 x1 x2 h
      else none
set_option maxRecDepth 20000 in
set_option maxHeartbeats 4000000 in
theorem T_X12_reads_b370 {X : CT} (C : CX X 154 cX12_reads 6 RX12 (some .boolean) 3 63) {r0 : Int32} {h0 : PH} {N : Nat} {rc11 : Int32 → Int32 → PH → Option (Int32 × PH)} (hr11 : ∀ (x1 : Int32) (x2 : Int32) (h : PH), rc11 x1 x2 h = some (r0, h0) → V X (QI X r0 h0) h 11 [some (.ref 103), some (.int x1), some (.int x2), none, none, none] []) : ∀ (n : Nat) (x1 : Int32) (x2 : Int32) (h : PH), F_X12_reads_b370 N rc11 n x1 x2 h = some (r0, h0) → V X (QI X r0 h0) h 370 [some (.ref 103), some (.int x1), some (.int x2), none, none, none] [] := by
  intro n
  induction n with
  | zero =>
    intro x1 x2 h hyp
    cases hyp
  | succ n ih =>
    intro x1 x2 h hyp
    unfold F_X12_reads_b370 at hyp
    refine V_iload_n (pc := 370) C dX12_reads_370 rfl ?_
    refine V_if_le (pc := 371) C dX12_reads_371 (tgt := 432) (by decide) (fun q1 => ?_) (fun q1 => ?_)
    · replace hyp := (if_pos q1).symm.trans hyp
      refine V_weak (lv' := [some (.ref 103), some (.int x1), some (.int x2), none, none, none]) (lvle_s (lvle_s (lvle_s (lvle_n (lvle_n (lvle_n lvle_0)))))) ?_
      exact (T_X12_reads_b432 C hr11) x1 x2 h hyp
    · replace hyp := (if_neg q1).symm.trans hyp
      refine V_aload_n (pc := 374) C dX12_reads_374 rfl ?_
      refine V_getR (pc := 375) C dX12_reads_375 lf_X12_39 fk_103_21 ?_
      refine V_iload_n (pc := 378) C dX12_reads_378 rfl ?_
      obtain ⟨g2, hyp⟩ := gd_n hyp
      refine V_iald (pc := 379) C dX12_reads_379 ak_112 g2 ?_
      refine V_iconst (pc := 380) C dX12_reads_380 (v := 1) (by decide) ?_
      refine V_icmp_ne (pc := 381) C dX12_reads_381 (tgt := 432) (by decide) (fun q3 => ?_) (fun q3 => ?_)
      · replace hyp := (if_neg q3).symm.trans hyp
        refine V_weak (lv' := [some (.ref 103), some (.int x1), some (.int x2), none, none, none]) (lvle_s (lvle_s (lvle_s (lvle_n (lvle_n (lvle_n lvle_0)))))) ?_
        exact (T_X12_reads_b432 C hr11) x1 x2 h hyp
      · replace hyp := (if_pos q3).symm.trans hyp
        obtain ⟨v4, ev4, hyp⟩ := ib_n hyp
        refine V_iinc (pc := 384) C dX12_reads_384 (v := v4) rfl (by rw [ev4]; rfl) (by decide) rfl ?_
        refine V_goto (pc := 387) C dX12_reads_387 (tgt := 370) (by decide) ?_
        refine V_weak (lv' := [some (.ref 103), some (.int v4), some (.int x2), none, none, none]) (lvle_s (lvle_s (lvle_s (lvle_n (lvle_n (lvle_n lvle_0)))))) ?_
        exact ih v4 x2 h hyp
def F_X12_reads_b420 (N : Nat) (h : PH) : Option (Int32 × PH) :=
  bV (F_X12_nextToken N  h) fun h2 =>
  some ((1 : Int32), h2)
set_option maxRecDepth 20000 in
set_option maxHeartbeats 4000000 in
theorem T_X12_reads_b420 {X : CT} (C : CX X 154 cX12_reads 6 RX12 (some .boolean) 3 63) {r0 : Int32} {h0 : PH} {N : Nat} : ∀ (h : PH), F_X12_reads_b420 N  h = some (r0, h0) → V X (QI X r0 h0) h 420 [some (.ref 103), none, none, none, none, none] [] := by
  intro  h hyp
  unfold F_X12_reads_b420 at hyp
  refine V_aload_n (pc := 420) C dX12_reads_420 rfl ?_
  obtain ⟨h2, eh2, hyp⟩ := bV_n hyp
  refine V_callV (pc := 421) C dX12_reads_421 lm_X12_287 mk_X12_nextToken ok_103 rfl (M_X12_nextToken _ eh2) rfl pd_X12_nextToken (by decide) (by decide) (by decide) (As := []) (rest := []) rfl (Nat.le_of_ble_eq_true rfl) ?_
  refine V_iconst (pc := 424) C dX12_reads_424 (v := 1) (by decide) ?_
  cases hyp
  exact V_zret C dX12_reads_425 rfl
def F_X12_reads_b426 (N : Nat) (h : PH) : Option (Int32 × PH) :=
  bI (F_X12_fails (1 : Int32) h) fun r1 h2 =>
  if zb r1 = true then
  some (r1, h2)
  else none
set_option maxRecDepth 20000 in
set_option maxHeartbeats 4000000 in
theorem T_X12_reads_b426 {X : CT} (C : CX X 154 cX12_reads 6 RX12 (some .boolean) 3 63) {r0 : Int32} {h0 : PH} {N : Nat} : ∀ (h : PH), F_X12_reads_b426 N  h = some (r0, h0) → V X (QI X r0 h0) h 426 [some (.ref 103), none, none, none, none, none] [] := by
  intro  h hyp
  unfold F_X12_reads_b426 at hyp
  refine V_aload_n (pc := 426) C dX12_reads_426 rfl ?_
  refine V_iconst (pc := 427) C dX12_reads_427 (v := 1) (by decide) ?_
  obtain ⟨r1, h2, eh2, hyp⟩ := bI_n hyp
  refine V_callI (pc := 428) C dX12_reads_428 lm_X12_290 mk_X12_fails ok_103 rfl (M_X12_fails _ eh2) rfl pd_X12_fails (by decide) (by decide) (by decide) (As := [.int (1 : Int32)]) (rest := []) rfl (Nat.le_of_ble_eq_true rfl) ?_
  obtain ⟨g3, hyp⟩ := gd_n hyp
  cases hyp
  exact V_zret C dX12_reads_431 (zb_n g3).1
def F_X12_reads_b390 (N : Nat) (x1 : Int32) (h : PH) : Option (Int32 × PH) :=
  if x1 = 0 then
    if (h.1 103 19) = 0 then
      bI (F_X12_isSign (59 : Int32) h) fun r3 h4 =>
      if r3 = 0 then
        F_X12_reads_b426 N  h4
      else
        F_X12_reads_b420 N  h4
    else
      if (h.1 103 7) = 0 then
        F_X12_reads_b420 N  h
      else
        F_X12_reads_b426 N  h
  else
    F_X12_reads_b426 N  h
set_option maxRecDepth 20000 in
set_option maxHeartbeats 4000000 in
theorem T_X12_reads_b390 {X : CT} (C : CX X 154 cX12_reads 6 RX12 (some .boolean) 3 63) {r0 : Int32} {h0 : PH} {N : Nat} : ∀ (x1 : Int32) (h : PH), F_X12_reads_b390 N x1 h = some (r0, h0) → V X (QI X r0 h0) h 390 [some (.ref 103), some (.int x1), none, none, none, none] [] := by
  intro x1 h hyp
  unfold F_X12_reads_b390 at hyp
  refine V_iload_n (pc := 390) C dX12_reads_390 rfl ?_
  refine V_if_ne (pc := 391) C dX12_reads_391 (tgt := 426) (by decide) (fun q1 => ?_) (fun q1 => ?_)
  · replace hyp := (if_neg q1).symm.trans hyp
    refine V_weak (lv' := [some (.ref 103), none, none, none, none, none]) (lvle_s (lvle_n (lvle_n (lvle_n (lvle_n (lvle_n lvle_0)))))) ?_
    exact (T_X12_reads_b426 C) h hyp
  · replace hyp := (if_pos q1).symm.trans hyp
    refine V_aload_n (pc := 394) C dX12_reads_394 rfl ?_
    refine V_getI (pc := 395) C dX12_reads_395 lf_X12_250 fk_103_19 ?_
    refine V_if_eq (pc := 398) C dX12_reads_398 (tgt := 411) (by decide) (fun q2 => ?_) (fun q2 => ?_)
    · replace hyp := (if_pos q2).symm.trans hyp
      refine V_aload_n (pc := 411) C dX12_reads_411 rfl ?_
      refine V_bipush (pc := 412) C dX12_reads_412 (v := 59) (by decide) ?_
      obtain ⟨r3, h4, eh4, hyp⟩ := bI_n hyp
      refine V_callI (pc := 414) C dX12_reads_414 lm_X12_304 mk_X12_isSign ok_103 rfl (M_X12_isSign _ eh4) rfl pd_X12_isSign (by decide) (by decide) (by decide) (As := [.int (59 : Int32)]) (rest := []) rfl (Nat.le_of_ble_eq_true rfl) ?_
      refine V_if_eq (pc := 417) C dX12_reads_417 (tgt := 426) (by decide) (fun q5 => ?_) (fun q5 => ?_)
      · replace hyp := (if_pos q5).symm.trans hyp
        refine V_weak (lv' := [some (.ref 103), none, none, none, none, none]) (lvle_s (lvle_n (lvle_n (lvle_n (lvle_n (lvle_n lvle_0)))))) ?_
        exact (T_X12_reads_b426 C) h4 hyp
      · replace hyp := (if_neg q5).symm.trans hyp
        refine V_weak (lv' := [some (.ref 103), none, none, none, none, none]) (lvle_s (lvle_n (lvle_n (lvle_n (lvle_n (lvle_n lvle_0)))))) ?_
        exact (T_X12_reads_b420 C) h4 hyp
    · replace hyp := (if_neg q2).symm.trans hyp
      refine V_aload_n (pc := 401) C dX12_reads_401 rfl ?_
      refine V_getI (pc := 402) C dX12_reads_402 lf_X12_233 fk_103_7 ?_
      refine V_if_ne (pc := 405) C dX12_reads_405 (tgt := 426) (by decide) (fun q6 => ?_) (fun q6 => ?_)
      · replace hyp := (if_neg q6).symm.trans hyp
        refine V_weak (lv' := [some (.ref 103), none, none, none, none, none]) (lvle_s (lvle_n (lvle_n (lvle_n (lvle_n (lvle_n lvle_0)))))) ?_
        exact (T_X12_reads_b426 C) h hyp
      · replace hyp := (if_pos q6).symm.trans hyp
        refine V_goto (pc := 408) C dX12_reads_408 (tgt := 420) (by decide) ?_
        refine V_weak (lv' := [some (.ref 103), none, none, none, none, none]) (lvle_s (lvle_n (lvle_n (lvle_n (lvle_n (lvle_n lvle_0)))))) ?_
        exact (T_X12_reads_b420 C) h hyp
def F_X12_reads_b295 (N : Nat) (rc11 : Int32 → Int32 → PH → Option (Int32 × PH)) (x1 : Int32) (x2 : Int32) (h : PH) : Option (Int32 × PH) :=
  bI (F_X12_isWord (1111 : Int64) h) fun r1 h2 =>
  if r1 = 0 then
    bI (F_X12_isWord (423 : Int64) h2) fun r4 h5 =>
    if r4 = 0 then
      bI (F_X12_isSign (41 : Int32) h5) fun r7 h8 =>
      if r7 = 0 then
        F_X12_reads_b390 N x1 h8
      else
        if x1 ≤ 0 then
          F_X12_reads_b390 N x1 h8
        else
          bV (F_X12_puts (29 : Int32) h8) fun h12 =>
          ib (x1 + (-1 : Int32)) fun v13 =>
          F_X12_reads_b370 N rc11 N v13 x2 h12
    else
      F_X12_reads_b315 N rc11 x1 h5
  else
    F_X12_reads_b315 N rc11 x1 h2
set_option maxRecDepth 20000 in
set_option maxHeartbeats 4000000 in
theorem T_X12_reads_b295 {X : CT} (C : CX X 154 cX12_reads 6 RX12 (some .boolean) 3 63) {r0 : Int32} {h0 : PH} {N : Nat} {rc11 : Int32 → Int32 → PH → Option (Int32 × PH)} (hr11 : ∀ (x1 : Int32) (x2 : Int32) (h : PH), rc11 x1 x2 h = some (r0, h0) → V X (QI X r0 h0) h 11 [some (.ref 103), some (.int x1), some (.int x2), none, none, none] []) : ∀ (x1 : Int32) (x2 : Int32) (h : PH), F_X12_reads_b295 N rc11 x1 x2 h = some (r0, h0) → V X (QI X r0 h0) h 295 [some (.ref 103), some (.int x1), some (.int x2), none, none, none] [] := by
  intro x1 x2 h hyp
  unfold F_X12_reads_b295 at hyp
  refine V_aload_n (pc := 295) C dX12_reads_295 rfl ?_
  refine V_ldc2 (pc := 296) C dX12_reads_296 ll_X12_310 ?_
  obtain ⟨r1, h2, eh2, hyp⟩ := bI_n hyp
  refine V_callI (pc := 299) C dX12_reads_299 lm_X12_300 mk_X12_isWord ok_103 rfl (M_X12_isWord _ eh2) rfl pd_X12_isWord (by decide) (by decide) (by decide) (As := [.long (1111 : Int64)]) (rest := []) rfl (Nat.le_of_ble_eq_true rfl) ?_
  refine V_if_ne (pc := 302) C dX12_reads_302 (tgt := 315) (by decide) (fun q3 => ?_) (fun q3 => ?_)
  · replace hyp := (if_neg q3).symm.trans hyp
    refine V_weak (lv' := [some (.ref 103), some (.int x1), none, none, none, none]) (lvle_s (lvle_s (lvle_n (lvle_n (lvle_n (lvle_n lvle_0)))))) ?_
    exact (T_X12_reads_b315 C hr11) x1 h2 hyp
  · replace hyp := (if_pos q3).symm.trans hyp
    refine V_aload_n (pc := 305) C dX12_reads_305 rfl ?_
    refine V_ldc2 (pc := 306) C dX12_reads_306 ll_X12_312 ?_
    obtain ⟨r4, h5, eh5, hyp⟩ := bI_n hyp
    refine V_callI (pc := 309) C dX12_reads_309 lm_X12_300 mk_X12_isWord ok_103 rfl (M_X12_isWord _ eh5) rfl pd_X12_isWord (by decide) (by decide) (by decide) (As := [.long (423 : Int64)]) (rest := []) rfl (Nat.le_of_ble_eq_true rfl) ?_
    refine V_if_eq (pc := 312) C dX12_reads_312 (tgt := 348) (by decide) (fun q6 => ?_) (fun q6 => ?_)
    · replace hyp := (if_pos q6).symm.trans hyp
      refine V_aload_n (pc := 348) C dX12_reads_348 rfl ?_
      refine V_bipush (pc := 349) C dX12_reads_349 (v := 41) (by decide) ?_
      obtain ⟨r7, h8, eh8, hyp⟩ := bI_n hyp
      refine V_callI (pc := 351) C dX12_reads_351 lm_X12_304 mk_X12_isSign ok_103 rfl (M_X12_isSign _ eh8) rfl pd_X12_isSign (by decide) (by decide) (by decide) (As := [.int (41 : Int32)]) (rest := []) rfl (Nat.le_of_ble_eq_true rfl) ?_
      refine V_if_eq (pc := 354) C dX12_reads_354 (tgt := 390) (by decide) (fun q9 => ?_) (fun q9 => ?_)
      · replace hyp := (if_pos q9).symm.trans hyp
        refine V_weak (lv' := [some (.ref 103), some (.int x1), none, none, none, none]) (lvle_s (lvle_s (lvle_n (lvle_n (lvle_n (lvle_n lvle_0)))))) ?_
        exact (T_X12_reads_b390 C) x1 h8 hyp
      · replace hyp := (if_neg q9).symm.trans hyp
        refine V_iload_n (pc := 357) C dX12_reads_357 rfl ?_
        refine V_if_le (pc := 358) C dX12_reads_358 (tgt := 390) (by decide) (fun q10 => ?_) (fun q10 => ?_)
        · replace hyp := (if_pos q10).symm.trans hyp
          refine V_weak (lv' := [some (.ref 103), some (.int x1), none, none, none, none]) (lvle_s (lvle_s (lvle_n (lvle_n (lvle_n (lvle_n lvle_0)))))) ?_
          exact (T_X12_reads_b390 C) x1 h8 hyp
        · replace hyp := (if_neg q10).symm.trans hyp
          refine V_aload_n (pc := 361) C dX12_reads_361 rfl ?_
          refine V_bipush (pc := 362) C dX12_reads_362 (v := 29) (by decide) ?_
          obtain ⟨h12, eh12, hyp⟩ := bV_n hyp
          refine V_callV (pc := 364) C dX12_reads_364 lm_X12_283 mk_X12_puts ok_103 rfl (M_X12_puts _ eh12) rfl pd_X12_puts (by decide) (by decide) (by decide) (As := [.int (29 : Int32)]) (rest := []) rfl (Nat.le_of_ble_eq_true rfl) ?_
          obtain ⟨v13, ev13, hyp⟩ := ib_n hyp
          refine V_iinc (pc := 367) C dX12_reads_367 (v := v13) rfl (by rw [ev13]; rfl) (by decide) rfl ?_
          refine V_weak (lv' := [some (.ref 103), some (.int v13), some (.int x2), none, none, none]) (lvle_s (lvle_s (lvle_s (lvle_n (lvle_n (lvle_n lvle_0)))))) ?_
          exact (T_X12_reads_b370 C hr11) N v13 x2 h12 hyp
    · replace hyp := (if_neg q6).symm.trans hyp
      refine V_weak (lv' := [some (.ref 103), some (.int x1), none, none, none, none]) (lvle_s (lvle_s (lvle_n (lvle_n (lvle_n (lvle_n lvle_0)))))) ?_
      exact (T_X12_reads_b315 C hr11) x1 h5 hyp
def F_X12_reads_b254 (N : Nat) (rc11 : Int32 → Int32 → PH → Option (Int32 × PH)) (x1 : Int32) (x2 : Int32) (h : PH) : Option (Int32 × PH) :=
  if inb x1 7 = true then
  if (h.1 113 x1.toNatClampNeg) = 0 then
    bI (F_X12_isSign (60 : Int32) h) fun r3 h4 =>
    if r3 = 0 then
      F_X12_reads_b280 N rc11 x1 (25 : Int32) h4
    else
      F_X12_reads_b280 N rc11 x1 (24 : Int32) h4
  else
    F_X12_reads_b295 N rc11 x1 x2 h
  else none
set_option maxRecDepth 20000 in
set_option maxHeartbeats 4000000 in
theorem T_X12_reads_b254 {X : CT} (C : CX X 154 cX12_reads 6 RX12 (some .boolean) 3 63) {r0 : Int32} {h0 : PH} {N : Nat} {rc11 : Int32 → Int32 → PH → Option (Int32 × PH)} (hr11 : ∀ (x1 : Int32) (x2 : Int32) (h : PH), rc11 x1 x2 h = some (r0, h0) → V X (QI X r0 h0) h 11 [some (.ref 103), some (.int x1), some (.int x2), none, none, none] []) : ∀ (x1 : Int32) (x2 : Int32) (h : PH), F_X12_reads_b254 N rc11 x1 x2 h = some (r0, h0) → V X (QI X r0 h0) h 254 [some (.ref 103), some (.int x1), some (.int x2), none, none, none] [] := by
  intro x1 x2 h hyp
  unfold F_X12_reads_b254 at hyp
  refine V_aload_n (pc := 254) C dX12_reads_254 rfl ?_
  refine V_getR (pc := 255) C dX12_reads_255 lf_X12_42 fk_103_22 ?_
  refine V_iload_n (pc := 258) C dX12_reads_258 rfl ?_
  obtain ⟨g1, hyp⟩ := gd_n hyp
  refine V_zald (pc := 259) C dX12_reads_259 ak_113 g1 ?_
  refine V_if_ne (pc := 260) C dX12_reads_260 (tgt := 295) (by decide) (fun q2 => ?_) (fun q2 => ?_)
  · replace hyp := (if_neg q2).symm.trans hyp
    refine V_weak (lv' := [some (.ref 103), some (.int x1), some (.int x2), none, none, none]) (lvle_s (lvle_s (lvle_s (lvle_n (lvle_n (lvle_n lvle_0)))))) ?_
    exact (T_X12_reads_b295 C hr11) x1 x2 h hyp
  · replace hyp := (if_pos q2).symm.trans hyp
    refine V_aload_n (pc := 263) C dX12_reads_263 rfl ?_
    refine V_aload_n (pc := 264) C dX12_reads_264 rfl ?_
    refine V_bipush (pc := 265) C dX12_reads_265 (v := 60) (by decide) ?_
    obtain ⟨r3, h4, eh4, hyp⟩ := bI_n hyp
    refine V_callI (pc := 267) C dX12_reads_267 lm_X12_304 mk_X12_isSign ok_103 rfl (M_X12_isSign _ eh4) rfl pd_X12_isSign (by decide) (by decide) (by decide) (As := [.int (60 : Int32)]) (rest := [.ref 103]) rfl (Nat.le_of_ble_eq_true rfl) ?_
    refine V_if_eq (pc := 270) C dX12_reads_270 (tgt := 278) (by decide) (fun q5 => ?_) (fun q5 => ?_)
    · replace hyp := (if_pos q5).symm.trans hyp
      refine V_bipush (pc := 278) C dX12_reads_278 (v := 25) (by decide) ?_
      refine V_weak (lv' := [some (.ref 103), some (.int x1), none, none, none, none]) (lvle_s (lvle_s (lvle_n (lvle_n (lvle_n (lvle_n lvle_0)))))) ?_
      exact (T_X12_reads_b280 C hr11) x1 (25 : Int32) h4 hyp
    · replace hyp := (if_neg q5).symm.trans hyp
      refine V_bipush (pc := 273) C dX12_reads_273 (v := 24) (by decide) ?_
      refine V_goto (pc := 275) C dX12_reads_275 (tgt := 280) (by decide) ?_
      refine V_weak (lv' := [some (.ref 103), some (.int x1), none, none, none, none]) (lvle_s (lvle_s (lvle_n (lvle_n (lvle_n (lvle_n lvle_0)))))) ?_
      exact (T_X12_reads_b280 C hr11) x1 (24 : Int32) h4 hyp
def F_X12_reads_b11 (N : Nat) : Nat → Int32 → Int32 → PH → Option (Int32 × PH)
  | 0, _, _, _ => none
  | n + 1, x1, x2, h =>
    if x2 = 0 then
      bI (F_X12_isSign (43 : Int32) h) fun r2 h3 =>
      if r2 = 0 then
        bI (F_X12_isSign (45 : Int32) h3) fun r5 h6 =>
        if r5 = 0 then
          bI (F_X12_isSign (42 : Int32) h6) fun r8 h9 =>
          if r8 = 0 then
            bI (F_X12_isSign (60 : Int32) h9) fun r11 h12 =>
            if r11 = 0 then
              bI (F_X12_isSign (61 : Int32) h12) fun r14 h15 =>
              if r14 = 0 then
                F_X12_reads_b295 N (F_X12_reads_b11 N n) x1 x2 h15
              else
                F_X12_reads_b254 N (F_X12_reads_b11 N n) x1 x2 h15
            else
              F_X12_reads_b254 N (F_X12_reads_b11 N n) x1 x2 h12
          else
            F_X12_reads_b197 N (F_X12_reads_b11 N n) x1 h9
        else
          F_X12_reads_b197 N (F_X12_reads_b11 N n) x1 h6
      else
        F_X12_reads_b197 N (F_X12_reads_b11 N n) x1 h3
    else
      bI (F_X12_fact  h) fun r17 h18 =>
      bI (F_X12_isWord (10631 : Int64) h18) fun r19 h20 =>
      bI (F_X12_isSign (40 : Int32) h20) fun r21 h22 =>
      if r17 = 0 then
        if r19 = 0 then
          if r21 = 0 then
            if (h22.1 103 7) = (2 : Int32) then
              F_X12_reads_b65 N (F_X12_reads_b11 N n) x1 x2 r17 r19 r21 h22
            else
              F_X12_reads_b59 N  h22
          else
            F_X12_reads_b65 N (F_X12_reads_b11 N n) x1 x2 r17 r19 r21 h22
        else
          F_X12_reads_b65 N (F_X12_reads_b11 N n) x1 x2 r17 r19 r21 h22
      else
        F_X12_reads_b65 N (F_X12_reads_b11 N n) x1 x2 r17 r19 r21 h22
set_option maxRecDepth 20000 in
set_option maxHeartbeats 4000000 in
theorem T_X12_reads_b11 {X : CT} (C : CX X 154 cX12_reads 6 RX12 (some .boolean) 3 63) {r0 : Int32} {h0 : PH} {N : Nat} : ∀ (n : Nat) (x1 : Int32) (x2 : Int32) (h : PH), F_X12_reads_b11 N n x1 x2 h = some (r0, h0) → V X (QI X r0 h0) h 11 [some (.ref 103), some (.int x1), some (.int x2), none, none, none] [] := by
  intro n
  induction n with
  | zero =>
    intro x1 x2 h hyp
    cases hyp
  | succ n ih =>
    intro x1 x2 h hyp
    unfold F_X12_reads_b11 at hyp
    refine V_iload_n (pc := 11) C dX12_reads_11 rfl ?_
    refine V_if_eq (pc := 12) C dX12_reads_12 (tgt := 170) (by decide) (fun q1 => ?_) (fun q1 => ?_)
    · replace hyp := (if_pos q1).symm.trans hyp
      refine V_aload_n (pc := 170) C dX12_reads_170 rfl ?_
      refine V_bipush (pc := 171) C dX12_reads_171 (v := 43) (by decide) ?_
      obtain ⟨r2, h3, eh3, hyp⟩ := bI_n hyp
      refine V_callI (pc := 173) C dX12_reads_173 lm_X12_304 mk_X12_isSign ok_103 rfl (M_X12_isSign _ eh3) rfl pd_X12_isSign (by decide) (by decide) (by decide) (As := [.int (43 : Int32)]) (rest := []) rfl (Nat.le_of_ble_eq_true rfl) ?_
      refine V_if_ne (pc := 176) C dX12_reads_176 (tgt := 197) (by decide) (fun q4 => ?_) (fun q4 => ?_)
      · replace hyp := (if_neg q4).symm.trans hyp
        refine V_weak (lv' := [some (.ref 103), some (.int x1), none, none, none, none]) (lvle_s (lvle_s (lvle_n (lvle_n (lvle_n (lvle_n lvle_0)))))) ?_
        exact (T_X12_reads_b197 C ih) x1 h3 hyp
      · replace hyp := (if_pos q4).symm.trans hyp
        refine V_aload_n (pc := 179) C dX12_reads_179 rfl ?_
        refine V_bipush (pc := 180) C dX12_reads_180 (v := 45) (by decide) ?_
        obtain ⟨r5, h6, eh6, hyp⟩ := bI_n hyp
        refine V_callI (pc := 182) C dX12_reads_182 lm_X12_304 mk_X12_isSign ok_103 rfl (M_X12_isSign _ eh6) rfl pd_X12_isSign (by decide) (by decide) (by decide) (As := [.int (45 : Int32)]) (rest := []) rfl (Nat.le_of_ble_eq_true rfl) ?_
        refine V_if_ne (pc := 185) C dX12_reads_185 (tgt := 197) (by decide) (fun q7 => ?_) (fun q7 => ?_)
        · replace hyp := (if_neg q7).symm.trans hyp
          refine V_weak (lv' := [some (.ref 103), some (.int x1), none, none, none, none]) (lvle_s (lvle_s (lvle_n (lvle_n (lvle_n (lvle_n lvle_0)))))) ?_
          exact (T_X12_reads_b197 C ih) x1 h6 hyp
        · replace hyp := (if_pos q7).symm.trans hyp
          refine V_aload_n (pc := 188) C dX12_reads_188 rfl ?_
          refine V_bipush (pc := 189) C dX12_reads_189 (v := 42) (by decide) ?_
          obtain ⟨r8, h9, eh9, hyp⟩ := bI_n hyp
          refine V_callI (pc := 191) C dX12_reads_191 lm_X12_304 mk_X12_isSign ok_103 rfl (M_X12_isSign _ eh9) rfl pd_X12_isSign (by decide) (by decide) (by decide) (As := [.int (42 : Int32)]) (rest := []) rfl (Nat.le_of_ble_eq_true rfl) ?_
          refine V_if_eq (pc := 194) C dX12_reads_194 (tgt := 236) (by decide) (fun q10 => ?_) (fun q10 => ?_)
          · replace hyp := (if_pos q10).symm.trans hyp
            refine V_aload_n (pc := 236) C dX12_reads_236 rfl ?_
            refine V_bipush (pc := 237) C dX12_reads_237 (v := 60) (by decide) ?_
            obtain ⟨r11, h12, eh12, hyp⟩ := bI_n hyp
            refine V_callI (pc := 239) C dX12_reads_239 lm_X12_304 mk_X12_isSign ok_103 rfl (M_X12_isSign _ eh12) rfl pd_X12_isSign (by decide) (by decide) (by decide) (As := [.int (60 : Int32)]) (rest := []) rfl (Nat.le_of_ble_eq_true rfl) ?_
            refine V_if_ne (pc := 242) C dX12_reads_242 (tgt := 254) (by decide) (fun q13 => ?_) (fun q13 => ?_)
            · replace hyp := (if_neg q13).symm.trans hyp
              refine V_weak (lv' := [some (.ref 103), some (.int x1), some (.int x2), none, none, none]) (lvle_s (lvle_s (lvle_s (lvle_n (lvle_n (lvle_n lvle_0)))))) ?_
              exact (T_X12_reads_b254 C ih) x1 x2 h12 hyp
            · replace hyp := (if_pos q13).symm.trans hyp
              refine V_aload_n (pc := 245) C dX12_reads_245 rfl ?_
              refine V_bipush (pc := 246) C dX12_reads_246 (v := 61) (by decide) ?_
              obtain ⟨r14, h15, eh15, hyp⟩ := bI_n hyp
              refine V_callI (pc := 248) C dX12_reads_248 lm_X12_304 mk_X12_isSign ok_103 rfl (M_X12_isSign _ eh15) rfl pd_X12_isSign (by decide) (by decide) (by decide) (As := [.int (61 : Int32)]) (rest := []) rfl (Nat.le_of_ble_eq_true rfl) ?_
              refine V_if_eq (pc := 251) C dX12_reads_251 (tgt := 295) (by decide) (fun q16 => ?_) (fun q16 => ?_)
              · replace hyp := (if_pos q16).symm.trans hyp
                refine V_weak (lv' := [some (.ref 103), some (.int x1), some (.int x2), none, none, none]) (lvle_s (lvle_s (lvle_s (lvle_n (lvle_n (lvle_n lvle_0)))))) ?_
                exact (T_X12_reads_b295 C ih) x1 x2 h15 hyp
              · replace hyp := (if_neg q16).symm.trans hyp
                refine V_weak (lv' := [some (.ref 103), some (.int x1), some (.int x2), none, none, none]) (lvle_s (lvle_s (lvle_s (lvle_n (lvle_n (lvle_n lvle_0)))))) ?_
                exact (T_X12_reads_b254 C ih) x1 x2 h15 hyp
          · replace hyp := (if_neg q10).symm.trans hyp
            refine V_weak (lv' := [some (.ref 103), some (.int x1), none, none, none, none]) (lvle_s (lvle_s (lvle_n (lvle_n (lvle_n (lvle_n lvle_0)))))) ?_
            exact (T_X12_reads_b197 C ih) x1 h9 hyp
    · replace hyp := (if_neg q1).symm.trans hyp
      refine V_aload_n (pc := 15) C dX12_reads_15 rfl ?_
      obtain ⟨r17, h18, eh18, hyp⟩ := bI_n hyp
      refine V_callI (pc := 16) C dX12_reads_16 lm_X12_294 mk_X12_fact ok_103 rfl (M_X12_fact _ eh18) rfl pd_X12_fact (by decide) (by decide) (by decide) (As := []) (rest := []) rfl (Nat.le_of_ble_eq_true rfl) ?_
      refine V_istore_n (pc := 19) C dX12_reads_19 (by decide) rfl ?_
      refine V_aload_n (pc := 20) C dX12_reads_20 rfl ?_
      refine V_ldc2 (pc := 21) C dX12_reads_21 ll_X12_298 ?_
      obtain ⟨r19, h20, eh20, hyp⟩ := bI_n hyp
      refine V_callI (pc := 24) C dX12_reads_24 lm_X12_300 mk_X12_isWord ok_103 rfl (M_X12_isWord _ eh20) rfl pd_X12_isWord (by decide) (by decide) (by decide) (As := [.long (10631 : Int64)]) (rest := []) rfl (Nat.le_of_ble_eq_true rfl) ?_
      refine V_istore (pc := 27) C dX12_reads_27 (by decide) rfl ?_
      refine V_aload_n (pc := 29) C dX12_reads_29 rfl ?_
      refine V_bipush (pc := 30) C dX12_reads_30 (v := 40) (by decide) ?_
      obtain ⟨r21, h22, eh22, hyp⟩ := bI_n hyp
      refine V_callI (pc := 32) C dX12_reads_32 lm_X12_304 mk_X12_isSign ok_103 rfl (M_X12_isSign _ eh22) rfl pd_X12_isSign (by decide) (by decide) (by decide) (As := [.int (40 : Int32)]) (rest := []) rfl (Nat.le_of_ble_eq_true rfl) ?_
      refine V_istore (pc := 35) C dX12_reads_35 (by decide) rfl ?_
      refine V_iload_n (pc := 37) C dX12_reads_37 rfl ?_
      refine V_if_ne (pc := 38) C dX12_reads_38 (tgt := 65) (by decide) (fun q23 => ?_) (fun q23 => ?_)
      · replace hyp := (if_neg q23).symm.trans hyp
        refine V_weak (lv' := [some (.ref 103), some (.int x1), some (.int x2), some (.int r17), some (.int r19), some (.int r21)]) (lvle_s (lvle_s (lvle_s (lvle_s (lvle_s (lvle_s lvle_0)))))) ?_
        exact (T_X12_reads_b65 C ih) x1 x2 r17 r19 r21 h22 hyp
      · replace hyp := (if_pos q23).symm.trans hyp
        refine V_iload (pc := 41) C dX12_reads_41 rfl ?_
        refine V_if_ne (pc := 43) C dX12_reads_43 (tgt := 65) (by decide) (fun q24 => ?_) (fun q24 => ?_)
        · replace hyp := (if_neg q24).symm.trans hyp
          refine V_weak (lv' := [some (.ref 103), some (.int x1), some (.int x2), some (.int r17), some (.int r19), some (.int r21)]) (lvle_s (lvle_s (lvle_s (lvle_s (lvle_s (lvle_s lvle_0)))))) ?_
          exact (T_X12_reads_b65 C ih) x1 x2 r17 r19 r21 h22 hyp
        · replace hyp := (if_pos q24).symm.trans hyp
          refine V_iload (pc := 46) C dX12_reads_46 rfl ?_
          refine V_if_ne (pc := 48) C dX12_reads_48 (tgt := 65) (by decide) (fun q25 => ?_) (fun q25 => ?_)
          · replace hyp := (if_neg q25).symm.trans hyp
            refine V_weak (lv' := [some (.ref 103), some (.int x1), some (.int x2), some (.int r17), some (.int r19), some (.int r21)]) (lvle_s (lvle_s (lvle_s (lvle_s (lvle_s (lvle_s lvle_0)))))) ?_
            exact (T_X12_reads_b65 C ih) x1 x2 r17 r19 r21 h22 hyp
          · replace hyp := (if_pos q25).symm.trans hyp
            refine V_aload_n (pc := 51) C dX12_reads_51 rfl ?_
            refine V_getI (pc := 52) C dX12_reads_52 lf_X12_233 fk_103_7 ?_
            refine V_iconst (pc := 55) C dX12_reads_55 (v := 2) (by decide) ?_
            refine V_icmp_eq (pc := 56) C dX12_reads_56 (tgt := 65) (by decide) (fun q26 => ?_) (fun q26 => ?_)
            · replace hyp := (if_pos q26).symm.trans hyp
              refine V_weak (lv' := [some (.ref 103), some (.int x1), some (.int x2), some (.int r17), some (.int r19), some (.int r21)]) (lvle_s (lvle_s (lvle_s (lvle_s (lvle_s (lvle_s lvle_0)))))) ?_
              exact (T_X12_reads_b65 C ih) x1 x2 r17 r19 r21 h22 hyp
            · replace hyp := (if_neg q26).symm.trans hyp
              refine V_weak (lv' := [some (.ref 103), none, none, none, none, none]) (lvle_s (lvle_n (lvle_n (lvle_n (lvle_n (lvle_n lvle_0)))))) ?_
              exact (T_X12_reads_b59 C) h22 hyp
def F_X12_reads (N : Nat) (h : PH) : Option (Int32 × PH) :=
  if inb (0 : Int32) 7 = true then
  hb (hs h 113 (0 : Int32).toNatClampNeg (vp_nar .boolean (0 : Int32))) fun h2 =>
  F_X12_reads_b11 N N (0 : Int32) (1 : Int32) h2
  else none
set_option maxRecDepth 20000 in
set_option maxHeartbeats 4000000 in
theorem M_X12_reads (E : EV) {N : Nat} {r : Int32} {h h2 : PH} (hyp : F_X12_reads N  h = some (r, h2)) : MI E 154 yX12_reads cX12_reads 6 (some .boolean) 3 63 [.ref 103] h r h2 := by
  refine MI.of 5 (by decide) rfl (fun X e1 C => ?_)
  subst e1
  replace C : CX X 154 cX12_reads 6 RX12 (some .boolean) 3 63 := C
  show V X _ h 0 [some (.ref 103), none, none, none, none, none] []
  unfold F_X12_reads at hyp
  refine V_iconst (pc := 0) C dX12_reads_0 (v := 0) (by decide) ?_
  refine V_istore_n (pc := 1) C dX12_reads_1 (by decide) rfl ?_
  refine V_iconst (pc := 2) C dX12_reads_2 (v := 1) (by decide) ?_
  refine V_istore_n (pc := 3) C dX12_reads_3 (by decide) rfl ?_
  refine V_aload_n (pc := 4) C dX12_reads_4 rfl ?_
  refine V_getR (pc := 5) C dX12_reads_5 lf_X12_42 fk_103_22 ?_
  refine V_iconst (pc := 8) C dX12_reads_8 (v := 0) (by decide) ?_
  refine V_iconst (pc := 9) C dX12_reads_9 (v := 0) (by decide) ?_
  obtain ⟨g1, hyp⟩ := gd_n hyp
  obtain ⟨h2, eh2, hyp⟩ := hb_n hyp
  refine V_zast (pc := 10) C dX12_reads_10 ak_113 g1 eh2 ?_
  refine V_weak (lv' := [some (.ref 103), some (.int (0 : Int32)), some (.int (1 : Int32)), none, none, none]) (lvle_s (lvle_s (lvle_s (lvle_n (lvle_n (lvle_n lvle_0)))))) ?_
  exact (T_X12_reads_b11 C) N (0 : Int32) (1 : Int32) h2 hyp
theorem dX12_readsLine_0 : decode cX12_readsLine 0 = .ok (.aload_n 0, 1) := by decide +kernel
theorem dX12_readsLine_1 : decode cX12_readsLine 1 = .ok (.ldc2_w 314, 3) := by decide +kernel
theorem dX12_readsLine_4 : decode cX12_readsLine 4 = .ok (.invokevirtual 300, 3) := by decide +kernel
theorem dX12_readsLine_7 : decode cX12_readsLine 7 = .ok (.ifCond .eq 8, 3) := by decide +kernel
theorem dX12_readsLine_10 : decode cX12_readsLine 10 = .ok (.bipush 8, 2) := by decide +kernel
theorem dX12_readsLine_12 : decode cX12_readsLine 12 = .ok (.goto 34, 3) := by decide +kernel
theorem dX12_readsLine_15 : decode cX12_readsLine 15 = .ok (.aload_n 0, 1) := by decide +kernel
theorem dX12_readsLine_16 : decode cX12_readsLine 16 = .ok (.ldc2_w 316, 3) := by decide +kernel
theorem dX12_readsLine_19 : decode cX12_readsLine 19 = .ok (.invokevirtual 300, 3) := by decide +kernel
theorem dX12_readsLine_22 : decode cX12_readsLine 22 = .ok (.ifCond .eq 8, 3) := by decide +kernel
theorem dX12_readsLine_25 : decode cX12_readsLine 25 = .ok (.bipush 9, 2) := by decide +kernel
theorem dX12_readsLine_27 : decode cX12_readsLine 27 = .ok (.goto 19, 3) := by decide +kernel
theorem dX12_readsLine_30 : decode cX12_readsLine 30 = .ok (.aload_n 0, 1) := by decide +kernel
theorem dX12_readsLine_31 : decode cX12_readsLine 31 = .ok (.ldc2_w 318, 3) := by decide +kernel
theorem dX12_readsLine_34 : decode cX12_readsLine 34 = .ok (.invokevirtual 300, 3) := by decide +kernel
theorem dX12_readsLine_37 : decode cX12_readsLine 37 = .ok (.ifCond .eq 8, 3) := by decide +kernel
theorem dX12_readsLine_40 : decode cX12_readsLine 40 = .ok (.bipush 10, 2) := by decide +kernel
theorem dX12_readsLine_42 : decode cX12_readsLine 42 = .ok (.goto 4, 3) := by decide +kernel
theorem dX12_readsLine_45 : decode cX12_readsLine 45 = .ok (.iconst (-1), 1) := by decide +kernel
theorem dX12_readsLine_46 : decode cX12_readsLine 46 = .ok (.istore_n 2, 1) := by decide +kernel
theorem dX12_readsLine_47 : decode cX12_readsLine 47 = .ok (.iload_n 2, 1) := by decide +kernel
theorem dX12_readsLine_48 : decode cX12_readsLine 48 = .ok (.ifCond .ge 41, 3) := by decide +kernel
theorem dX12_readsLine_51 : decode cX12_readsLine 51 = .ok (.aload_n 0, 1) := by decide +kernel
theorem dX12_readsLine_52 : decode cX12_readsLine 52 = .ok (.ldc2_w 320, 3) := by decide +kernel
theorem dX12_readsLine_55 : decode cX12_readsLine 55 = .ok (.invokevirtual 300, 3) := by decide +kernel
theorem dX12_readsLine_58 : decode cX12_readsLine 58 = .ok (.ifCond .ne 31, 3) := by decide +kernel
theorem dX12_readsLine_61 : decode cX12_readsLine 61 = .ok (.aload_n 0, 1) := by decide +kernel
theorem dX12_readsLine_62 : decode cX12_readsLine 62 = .ok (.ldc2_w 322, 3) := by decide +kernel
theorem dX12_readsLine_65 : decode cX12_readsLine 65 = .ok (.invokevirtual 300, 3) := by decide +kernel
theorem dX12_readsLine_68 : decode cX12_readsLine 68 = .ok (.ifCond .ne 21, 3) := by decide +kernel
theorem dX12_readsLine_71 : decode cX12_readsLine 71 = .ok (.aload_n 0, 1) := by decide +kernel
theorem dX12_readsLine_72 : decode cX12_readsLine 72 = .ok (.ldc2_w 324, 3) := by decide +kernel
theorem dX12_readsLine_75 : decode cX12_readsLine 75 = .ok (.invokevirtual 300, 3) := by decide +kernel
theorem dX12_readsLine_78 : decode cX12_readsLine 78 = .ok (.ifCond .ne 11, 3) := by decide +kernel
theorem dX12_readsLine_81 : decode cX12_readsLine 81 = .ok (.aload_n 0, 1) := by decide +kernel
theorem dX12_readsLine_82 : decode cX12_readsLine 82 = .ok (.iconst 1, 1) := by decide +kernel
theorem dX12_readsLine_83 : decode cX12_readsLine 83 = .ok (.invokevirtual 290, 3) := by decide +kernel
theorem dX12_readsLine_86 : decode cX12_readsLine 86 = .ok (.pop, 1) := by decide +kernel
theorem dX12_readsLine_87 : decode cX12_readsLine 87 = .ok (.iconst (-1), 1) := by decide +kernel
theorem dX12_readsLine_88 : decode cX12_readsLine 88 = .ok (.ireturn, 1) := by decide +kernel
theorem dX12_readsLine_89 : decode cX12_readsLine 89 = .ok (.aload_n 0, 1) := by decide +kernel
theorem dX12_readsLine_90 : decode cX12_readsLine 90 = .ok (.ldc2_w 324, 3) := by decide +kernel
theorem dX12_readsLine_93 : decode cX12_readsLine 93 = .ok (.invokevirtual 300, 3) := by decide +kernel
theorem dX12_readsLine_96 : decode cX12_readsLine 96 = .ok (.ifCond .eq 30, 3) := by decide +kernel
theorem dX12_readsLine_99 : decode cX12_readsLine 99 = .ok (.iload_n 1, 1) := by decide +kernel
theorem dX12_readsLine_100 : decode cX12_readsLine 100 = .ok (.bipush 6, 2) := by decide +kernel
theorem dX12_readsLine_102 : decode cX12_readsLine 102 = .ok (.if_icmp .ne 9, 3) := by decide +kernel
theorem dX12_readsLine_105 : decode cX12_readsLine 105 = .ok (.aload_n 0, 1) := by decide +kernel
theorem dX12_readsLine_106 : decode cX12_readsLine 106 = .ok (.iconst 5, 1) := by decide +kernel
theorem dX12_readsLine_107 : decode cX12_readsLine 107 = .ok (.invokevirtual 290, 3) := by decide +kernel
theorem dX12_readsLine_110 : decode cX12_readsLine 110 = .ok (.pop, 1) := by decide +kernel
theorem dX12_readsLine_111 : decode cX12_readsLine 111 = .ok (.iload_n 1, 1) := by decide +kernel
theorem dX12_readsLine_112 : decode cX12_readsLine 112 = .ok (.bipush 6, 2) := by decide +kernel
theorem dX12_readsLine_114 : decode cX12_readsLine 114 = .ok (.if_icmp .ne 7, 3) := by decide +kernel
theorem dX12_readsLine_117 : decode cX12_readsLine 117 = .ok (.iconst (-1), 1) := by decide +kernel
theorem dX12_readsLine_118 : decode cX12_readsLine 118 = .ok (.goto 7, 3) := by decide +kernel
theorem dX12_readsLine_121 : decode cX12_readsLine 121 = .ok (.bipush 19, 2) := by decide +kernel
theorem dX12_readsLine_123 : decode cX12_readsLine 123 = .ok (.iload_n 1, 1) := by decide +kernel
theorem dX12_readsLine_124 : decode cX12_readsLine 124 = .ok (.iadd, 1) := by decide +kernel
theorem dX12_readsLine_125 : decode cX12_readsLine 125 = .ok (.ireturn, 1) := by decide +kernel
theorem dX12_readsLine_126 : decode cX12_readsLine 126 = .ok (.iload_n 2, 1) := by decide +kernel
theorem dX12_readsLine_127 : decode cX12_readsLine 127 = .ok (.ifCond .ge 100, 3) := by decide +kernel
theorem dX12_readsLine_130 : decode cX12_readsLine 130 = .ok (.aload_n 0, 1) := by decide +kernel
theorem dX12_readsLine_131 : decode cX12_readsLine 131 = .ok (.ldc2_w 320, 3) := by decide +kernel
theorem dX12_readsLine_134 : decode cX12_readsLine 134 = .ok (.invokevirtual 300, 3) := by decide +kernel
theorem dX12_readsLine_137 : decode cX12_readsLine 137 = .ok (.istore_n 3, 1) := by decide +kernel
theorem dX12_readsLine_138 : decode cX12_readsLine 138 = .ok (.aload_n 0, 1) := by decide +kernel
theorem dX12_readsLine_139 : decode cX12_readsLine 139 = .ok (.invokevirtual 287, 3) := by decide +kernel
theorem dX12_readsLine_142 : decode cX12_readsLine 142 = .ok (.iload_n 3, 1) := by decide +kernel
theorem dX12_readsLine_143 : decode cX12_readsLine 143 = .ok (.ifCond .eq 25, 3) := by decide +kernel
theorem dX12_readsLine_146 : decode cX12_readsLine 146 = .ok (.aload_n 0, 1) := by decide +kernel
theorem dX12_readsLine_147 : decode cX12_readsLine 147 = .ok (.getfield 233, 3) := by decide +kernel
theorem dX12_readsLine_150 : decode cX12_readsLine 150 = .ok (.iconst 1, 1) := by decide +kernel
theorem dX12_readsLine_151 : decode cX12_readsLine 151 = .ok (.if_icmp .ne 25, 3) := by decide +kernel
theorem dX12_readsLine_154 : decode cX12_readsLine 154 = .ok (.aload_n 0, 1) := by decide +kernel
theorem dX12_readsLine_155 : decode cX12_readsLine 155 = .ok (.getfield 226, 3) := by decide +kernel
theorem dX12_readsLine_158 : decode cX12_readsLine 158 = .ok (.ldc2_w 273, 3) := by decide +kernel
theorem dX12_readsLine_161 : decode cX12_readsLine 161 = .ok (.lcmp, 1) := by decide +kernel
theorem dX12_readsLine_162 : decode cX12_readsLine 162 = .ok (.ifCond .le 22, 3) := by decide +kernel
theorem dX12_readsLine_165 : decode cX12_readsLine 165 = .ok (.goto 11, 3) := by decide +kernel
theorem dX12_readsLine_168 : decode cX12_readsLine 168 = .ok (.aload_n 0, 1) := by decide +kernel
theorem dX12_readsLine_169 : decode cX12_readsLine 169 = .ok (.getfield 233, 3) := by decide +kernel
theorem dX12_readsLine_172 : decode cX12_readsLine 172 = .ok (.iconst 2, 1) := by decide +kernel
theorem dX12_readsLine_173 : decode cX12_readsLine 173 = .ok (.if_icmp .eq 11, 3) := by decide +kernel
theorem dX12_readsLine_176 : decode cX12_readsLine 176 = .ok (.aload_n 0, 1) := by decide +kernel
theorem dX12_readsLine_177 : decode cX12_readsLine 177 = .ok (.iconst 1, 1) := by decide +kernel
theorem dX12_readsLine_178 : decode cX12_readsLine 178 = .ok (.invokevirtual 290, 3) := by decide +kernel
theorem dX12_readsLine_181 : decode cX12_readsLine 181 = .ok (.pop, 1) := by decide +kernel
theorem dX12_readsLine_182 : decode cX12_readsLine 182 = .ok (.iconst (-1), 1) := by decide +kernel
theorem dX12_readsLine_183 : decode cX12_readsLine 183 = .ok (.ireturn, 1) := by decide +kernel
theorem dX12_readsLine_184 : decode cX12_readsLine 184 = .ok (.iload_n 3, 1) := by decide +kernel
theorem dX12_readsLine_185 : decode cX12_readsLine 185 = .ok (.ifCond .ne 20, 3) := by decide +kernel
theorem dX12_readsLine_188 : decode cX12_readsLine 188 = .ok (.aload_n 0, 1) := by decide +kernel
theorem dX12_readsLine_189 : decode cX12_readsLine 189 = .ok (.getfield 230, 3) := by decide +kernel
theorem dX12_readsLine_192 : decode cX12_readsLine 192 = .ok (.bipush 7, 2) := by decide +kernel
theorem dX12_readsLine_194 : decode cX12_readsLine 194 = .ok (.if_icmp .le 11, 3) := by decide +kernel
theorem dX12_readsLine_197 : decode cX12_readsLine 197 = .ok (.aload_n 0, 1) := by decide +kernel
theorem dX12_readsLine_198 : decode cX12_readsLine 198 = .ok (.iconst 4, 1) := by decide +kernel
theorem dX12_readsLine_199 : decode cX12_readsLine 199 = .ok (.invokevirtual 290, 3) := by decide +kernel
theorem dX12_readsLine_202 : decode cX12_readsLine 202 = .ok (.pop, 1) := by decide +kernel
theorem dX12_readsLine_203 : decode cX12_readsLine 203 = .ok (.iconst (-1), 1) := by decide +kernel
theorem dX12_readsLine_204 : decode cX12_readsLine 204 = .ok (.ireturn, 1) := by decide +kernel
theorem dX12_readsLine_205 : decode cX12_readsLine 205 = .ok (.iload_n 3, 1) := by decide +kernel
theorem dX12_readsLine_206 : decode cX12_readsLine 206 = .ok (.ifCond .eq 13, 3) := by decide +kernel
theorem dX12_readsLine_209 : decode cX12_readsLine 209 = .ok (.aload_n 0, 1) := by decide +kernel
theorem dX12_readsLine_210 : decode cX12_readsLine 210 = .ok (.getfield 226, 3) := by decide +kernel
theorem dX12_readsLine_213 : decode cX12_readsLine 213 = .ok (.l2i, 1) := by decide +kernel
theorem dX12_readsLine_214 : decode cX12_readsLine 214 = .ok (.iconst 1, 1) := by decide +kernel
theorem dX12_readsLine_215 : decode cX12_readsLine 215 = .ok (.isub, 1) := by decide +kernel
theorem dX12_readsLine_216 : decode cX12_readsLine 216 = .ok (.goto 10, 3) := by decide +kernel
theorem dX12_readsLine_219 : decode cX12_readsLine 219 = .ok (.bipush 11, 2) := by decide +kernel
theorem dX12_readsLine_221 : decode cX12_readsLine 221 = .ok (.aload_n 0, 1) := by decide +kernel
theorem dX12_readsLine_222 : decode cX12_readsLine 222 = .ok (.getfield 230, 3) := by decide +kernel
theorem dX12_readsLine_225 : decode cX12_readsLine 225 = .ok (.iadd, 1) := by decide +kernel
theorem dX12_readsLine_226 : decode cX12_readsLine 226 = .ok (.istore_n 2, 1) := by decide +kernel
theorem dX12_readsLine_227 : decode cX12_readsLine 227 = .ok (.aload_n 0, 1) := by decide +kernel
theorem dX12_readsLine_228 : decode cX12_readsLine 228 = .ok (.getfield 27, 3) := by decide +kernel
theorem dX12_readsLine_231 : decode cX12_readsLine 231 = .ok (.iload_n 2, 1) := by decide +kernel
theorem dX12_readsLine_232 : decode cX12_readsLine 232 = .ok (.baload, 1) := by decide +kernel
theorem dX12_readsLine_233 : decode cX12_readsLine 233 = .ok (.ifCond .eq 11, 3) := by decide +kernel
theorem dX12_readsLine_236 : decode cX12_readsLine 236 = .ok (.aload_n 0, 1) := by decide +kernel
theorem dX12_readsLine_237 : decode cX12_readsLine 237 = .ok (.iconst 3, 1) := by decide +kernel
theorem dX12_readsLine_238 : decode cX12_readsLine 238 = .ok (.invokevirtual 290, 3) := by decide +kernel
theorem dX12_readsLine_241 : decode cX12_readsLine 241 = .ok (.pop, 1) := by decide +kernel
theorem dX12_readsLine_242 : decode cX12_readsLine 242 = .ok (.iconst (-1), 1) := by decide +kernel
theorem dX12_readsLine_243 : decode cX12_readsLine 243 = .ok (.ireturn, 1) := by decide +kernel
theorem dX12_readsLine_244 : decode cX12_readsLine 244 = .ok (.iload_n 2, 1) := by decide +kernel
theorem dX12_readsLine_245 : decode cX12_readsLine 245 = .ok (.ireturn, 1) := by decide +kernel
def F_X12_readsLine_b111 (N : Nat) (x1 : Int32) (h : PH) : Option (Int32 × PH) :=
  if x1 = (6 : Int32) then
    some ((-1 : Int32), h)
  else
    some ((19 : Int32) + x1, h)
set_option maxRecDepth 20000 in
set_option maxHeartbeats 4000000 in
theorem T_X12_readsLine_b111 {X : CT} (C : CX X 154 cX12_readsLine 4 RX12 (some .int) 2 42) {r0 : Int32} {h0 : PH} {N : Nat} : ∀ (x1 : Int32) (h : PH), F_X12_readsLine_b111 N x1 h = some (r0, h0) → V X (QI X r0 h0) h 111 [none, some (.int x1), none, none] [] := by
  intro x1 h hyp
  unfold F_X12_readsLine_b111 at hyp
  refine V_iload_n (pc := 111) C dX12_readsLine_111 rfl ?_
  refine V_bipush (pc := 112) C dX12_readsLine_112 (v := 6) (by decide) ?_
  refine V_icmp_ne (pc := 114) C dX12_readsLine_114 (tgt := 121) (by decide) (fun q1 => ?_) (fun q1 => ?_)
  · replace hyp := (if_neg q1).symm.trans hyp
    refine V_bipush (pc := 121) C dX12_readsLine_121 (v := 19) (by decide) ?_
    refine V_iload_n (pc := 123) C dX12_readsLine_123 rfl ?_
    refine V_iadd (pc := 124) C dX12_readsLine_124 ?_
    cases hyp
    exact V_iret C dX12_readsLine_125
  · replace hyp := (if_pos q1).symm.trans hyp
    refine V_iconst (pc := 117) C dX12_readsLine_117 (v := -1) (by decide) ?_
    refine V_goto (pc := 118) C dX12_readsLine_118 (tgt := 125) (by decide) ?_
    cases hyp
    exact V_iret C dX12_readsLine_125
def F_X12_readsLine_b176 (N : Nat) (h : PH) : Option (Int32 × PH) :=
  bI (F_X12_fails (1 : Int32) h) fun r1 h2 =>
  some ((-1 : Int32), h2)
set_option maxRecDepth 20000 in
set_option maxHeartbeats 4000000 in
theorem T_X12_readsLine_b176 {X : CT} (C : CX X 154 cX12_readsLine 4 RX12 (some .int) 2 42) {r0 : Int32} {h0 : PH} {N : Nat} : ∀ (h : PH), F_X12_readsLine_b176 N  h = some (r0, h0) → V X (QI X r0 h0) h 176 [some (.ref 103), none, none, none] [] := by
  intro  h hyp
  unfold F_X12_readsLine_b176 at hyp
  refine V_aload_n (pc := 176) C dX12_readsLine_176 rfl ?_
  refine V_iconst (pc := 177) C dX12_readsLine_177 (v := 1) (by decide) ?_
  obtain ⟨r1, h2, eh2, hyp⟩ := bI_n hyp
  refine V_callI (pc := 178) C dX12_readsLine_178 lm_X12_290 mk_X12_fails ok_103 rfl (M_X12_fails _ eh2) rfl pd_X12_fails (by decide) (by decide) (by decide) (As := [.int (1 : Int32)]) (rest := []) rfl (Nat.le_of_ble_eq_true rfl) ?_
  refine V_pop (pc := 181) C dX12_readsLine_181 rfl ?_
  refine V_iconst (pc := 182) C dX12_readsLine_182 (v := -1) (by decide) ?_
  cases hyp
  exact V_iret C dX12_readsLine_183
def F_X12_readsLine_b227 (N : Nat) (x2 : Int32) (h : PH) : Option (Int32 × PH) :=
  if inb x2 26 = true then
  if (h.1 108 x2.toNatClampNeg) = 0 then
    some (x2, h)
  else
    bI (F_X12_fails (3 : Int32) h) fun r3 h4 =>
    some ((-1 : Int32), h4)
  else none
set_option maxRecDepth 20000 in
set_option maxHeartbeats 4000000 in
theorem T_X12_readsLine_b227 {X : CT} (C : CX X 154 cX12_readsLine 4 RX12 (some .int) 2 42) {r0 : Int32} {h0 : PH} {N : Nat} : ∀ (x2 : Int32) (h : PH), F_X12_readsLine_b227 N x2 h = some (r0, h0) → V X (QI X r0 h0) h 227 [some (.ref 103), none, some (.int x2), none] [] := by
  intro x2 h hyp
  unfold F_X12_readsLine_b227 at hyp
  refine V_aload_n (pc := 227) C dX12_readsLine_227 rfl ?_
  refine V_getR (pc := 228) C dX12_readsLine_228 lf_X12_27 fk_103_14 ?_
  refine V_iload_n (pc := 231) C dX12_readsLine_231 rfl ?_
  obtain ⟨g1, hyp⟩ := gd_n hyp
  refine V_zald (pc := 232) C dX12_readsLine_232 ak_108 g1 ?_
  refine V_if_eq (pc := 233) C dX12_readsLine_233 (tgt := 244) (by decide) (fun q2 => ?_) (fun q2 => ?_)
  · replace hyp := (if_pos q2).symm.trans hyp
    refine V_iload_n (pc := 244) C dX12_readsLine_244 rfl ?_
    cases hyp
    exact V_iret C dX12_readsLine_245
  · replace hyp := (if_neg q2).symm.trans hyp
    refine V_aload_n (pc := 236) C dX12_readsLine_236 rfl ?_
    refine V_iconst (pc := 237) C dX12_readsLine_237 (v := 3) (by decide) ?_
    obtain ⟨r3, h4, eh4, hyp⟩ := bI_n hyp
    refine V_callI (pc := 238) C dX12_readsLine_238 lm_X12_290 mk_X12_fails ok_103 rfl (M_X12_fails _ eh4) rfl pd_X12_fails (by decide) (by decide) (by decide) (As := [.int (3 : Int32)]) (rest := []) rfl (Nat.le_of_ble_eq_true rfl) ?_
    refine V_pop (pc := 241) C dX12_readsLine_241 rfl ?_
    refine V_iconst (pc := 242) C dX12_readsLine_242 (v := -1) (by decide) ?_
    cases hyp
    exact V_iret C dX12_readsLine_243
def F_X12_readsLine_b226 (N : Nat) (s0 : Int32) (h : PH) : Option (Int32 × PH) :=
  F_X12_readsLine_b227 N s0 h
set_option maxRecDepth 20000 in
set_option maxHeartbeats 4000000 in
theorem T_X12_readsLine_b226 {X : CT} (C : CX X 154 cX12_readsLine 4 RX12 (some .int) 2 42) {r0 : Int32} {h0 : PH} {N : Nat} : ∀ (s0 : Int32) (h : PH), F_X12_readsLine_b226 N s0 h = some (r0, h0) → V X (QI X r0 h0) h 226 [some (.ref 103), none, none, none] [.int s0] := by
  intro s0 h hyp
  unfold F_X12_readsLine_b226 at hyp
  refine V_istore_n (pc := 226) C dX12_readsLine_226 (by decide) rfl ?_
  refine V_weak (lv' := [some (.ref 103), none, some (.int s0), none]) (lvle_s (lvle_n (lvle_s (lvle_n lvle_0)))) ?_
  exact (T_X12_readsLine_b227 C) s0 h hyp
def F_X12_readsLine_b205 (N : Nat) (x3 : Int32) (h : PH) : Option (Int32 × PH) :=
  if x3 = 0 then
    F_X12_readsLine_b226 N ((11 : Int32) + (h.1 103 9)) h
  else
    F_X12_readsLine_b226 N (((h.2 103 8).toInt32) - (1 : Int32)) h
set_option maxRecDepth 20000 in
set_option maxHeartbeats 4000000 in
theorem T_X12_readsLine_b205 {X : CT} (C : CX X 154 cX12_readsLine 4 RX12 (some .int) 2 42) {r0 : Int32} {h0 : PH} {N : Nat} : ∀ (x3 : Int32) (h : PH), F_X12_readsLine_b205 N x3 h = some (r0, h0) → V X (QI X r0 h0) h 205 [some (.ref 103), none, none, some (.int x3)] [] := by
  intro x3 h hyp
  unfold F_X12_readsLine_b205 at hyp
  refine V_iload_n (pc := 205) C dX12_readsLine_205 rfl ?_
  refine V_if_eq (pc := 206) C dX12_readsLine_206 (tgt := 219) (by decide) (fun q1 => ?_) (fun q1 => ?_)
  · replace hyp := (if_pos q1).symm.trans hyp
    refine V_bipush (pc := 219) C dX12_readsLine_219 (v := 11) (by decide) ?_
    refine V_aload_n (pc := 221) C dX12_readsLine_221 rfl ?_
    refine V_getI (pc := 222) C dX12_readsLine_222 lf_X12_230 fk_103_9 ?_
    refine V_iadd (pc := 225) C dX12_readsLine_225 ?_
    refine V_weak (lv' := [some (.ref 103), none, none, none]) (lvle_s (lvle_n (lvle_n (lvle_n lvle_0)))) ?_
    exact (T_X12_readsLine_b226 C) ((11 : Int32) + (h.1 103 9)) h hyp
  · replace hyp := (if_neg q1).symm.trans hyp
    refine V_aload_n (pc := 209) C dX12_readsLine_209 rfl ?_
    refine V_getL (pc := 210) C dX12_readsLine_210 lf_X12_226 fk_103_8 ?_
    refine V_l2i (pc := 213) C dX12_readsLine_213 ?_
    refine V_iconst (pc := 214) C dX12_readsLine_214 (v := 1) (by decide) ?_
    refine V_isub (pc := 215) C dX12_readsLine_215 ?_
    refine V_goto (pc := 216) C dX12_readsLine_216 (tgt := 226) (by decide) ?_
    refine V_weak (lv' := [some (.ref 103), none, none, none]) (lvle_s (lvle_n (lvle_n (lvle_n lvle_0)))) ?_
    exact (T_X12_readsLine_b226 C) (((h.2 103 8).toInt32) - (1 : Int32)) h hyp
def F_X12_readsLine_b184 (N : Nat) (x3 : Int32) (h : PH) : Option (Int32 × PH) :=
  if x3 = 0 then
    if (h.1 103 9) ≤ (7 : Int32) then
      F_X12_readsLine_b205 N x3 h
    else
      bI (F_X12_fails (4 : Int32) h) fun r3 h4 =>
      some ((-1 : Int32), h4)
  else
    F_X12_readsLine_b205 N x3 h
set_option maxRecDepth 20000 in
set_option maxHeartbeats 4000000 in
theorem T_X12_readsLine_b184 {X : CT} (C : CX X 154 cX12_readsLine 4 RX12 (some .int) 2 42) {r0 : Int32} {h0 : PH} {N : Nat} : ∀ (x3 : Int32) (h : PH), F_X12_readsLine_b184 N x3 h = some (r0, h0) → V X (QI X r0 h0) h 184 [some (.ref 103), none, none, some (.int x3)] [] := by
  intro x3 h hyp
  unfold F_X12_readsLine_b184 at hyp
  refine V_iload_n (pc := 184) C dX12_readsLine_184 rfl ?_
  refine V_if_ne (pc := 185) C dX12_readsLine_185 (tgt := 205) (by decide) (fun q1 => ?_) (fun q1 => ?_)
  · replace hyp := (if_neg q1).symm.trans hyp
    refine V_weak (lv' := [some (.ref 103), none, none, some (.int x3)]) (lvle_s (lvle_n (lvle_n (lvle_s lvle_0)))) ?_
    exact (T_X12_readsLine_b205 C) x3 h hyp
  · replace hyp := (if_pos q1).symm.trans hyp
    refine V_aload_n (pc := 188) C dX12_readsLine_188 rfl ?_
    refine V_getI (pc := 189) C dX12_readsLine_189 lf_X12_230 fk_103_9 ?_
    refine V_bipush (pc := 192) C dX12_readsLine_192 (v := 7) (by decide) ?_
    refine V_icmp_le (pc := 194) C dX12_readsLine_194 (tgt := 205) (by decide) (fun q2 => ?_) (fun q2 => ?_)
    · replace hyp := (if_pos q2).symm.trans hyp
      refine V_weak (lv' := [some (.ref 103), none, none, some (.int x3)]) (lvle_s (lvle_n (lvle_n (lvle_s lvle_0)))) ?_
      exact (T_X12_readsLine_b205 C) x3 h hyp
    · replace hyp := (if_neg q2).symm.trans hyp
      refine V_aload_n (pc := 197) C dX12_readsLine_197 rfl ?_
      refine V_iconst (pc := 198) C dX12_readsLine_198 (v := 4) (by decide) ?_
      obtain ⟨r3, h4, eh4, hyp⟩ := bI_n hyp
      refine V_callI (pc := 199) C dX12_readsLine_199 lm_X12_290 mk_X12_fails ok_103 rfl (M_X12_fails _ eh4) rfl pd_X12_fails (by decide) (by decide) (by decide) (As := [.int (4 : Int32)]) (rest := []) rfl (Nat.le_of_ble_eq_true rfl) ?_
      refine V_pop (pc := 202) C dX12_readsLine_202 rfl ?_
      refine V_iconst (pc := 203) C dX12_readsLine_203 (v := -1) (by decide) ?_
      cases hyp
      exact V_iret C dX12_readsLine_204
def F_X12_readsLine_b89 (N : Nat) (x1 : Int32) (x2 : Int32) (h : PH) : Option (Int32 × PH) :=
  bI (F_X12_isWord (7554780 : Int64) h) fun r1 h2 =>
  if r1 = 0 then
    if 0 ≤ x2 then
      F_X12_readsLine_b227 N x2 h2
    else
      bI (F_X12_isWord (9673153 : Int64) h2) fun r5 h6 =>
      bV (F_X12_nextToken N  h6) fun h8 =>
      if r5 = 0 then
        if (h8.1 103 7) = (2 : Int32) then
          F_X12_readsLine_b184 N r5 h8
        else
          F_X12_readsLine_b176 N  h8
      else
        if (h8.1 103 7) = (1 : Int32) then
          if (lg_cmp (h8.2 103 8) (8 : Int64)) ≤ 0 then
            F_X12_readsLine_b184 N r5 h8
          else
            F_X12_readsLine_b176 N  h8
        else
          F_X12_readsLine_b176 N  h8
  else
    if x1 = (6 : Int32) then
      bI (F_X12_fails (5 : Int32) h2) fun r14 h15 =>
      F_X12_readsLine_b111 N x1 h15
    else
      F_X12_readsLine_b111 N x1 h2
set_option maxRecDepth 20000 in
set_option maxHeartbeats 4000000 in
theorem T_X12_readsLine_b89 {X : CT} (C : CX X 154 cX12_readsLine 4 RX12 (some .int) 2 42) {r0 : Int32} {h0 : PH} {N : Nat} : ∀ (x1 : Int32) (x2 : Int32) (h : PH), F_X12_readsLine_b89 N x1 x2 h = some (r0, h0) → V X (QI X r0 h0) h 89 [some (.ref 103), some (.int x1), some (.int x2), none] [] := by
  intro x1 x2 h hyp
  unfold F_X12_readsLine_b89 at hyp
  refine V_aload_n (pc := 89) C dX12_readsLine_89 rfl ?_
  refine V_ldc2 (pc := 90) C dX12_readsLine_90 ll_X12_324 ?_
  obtain ⟨r1, h2, eh2, hyp⟩ := bI_n hyp
  refine V_callI (pc := 93) C dX12_readsLine_93 lm_X12_300 mk_X12_isWord ok_103 rfl (M_X12_isWord _ eh2) rfl pd_X12_isWord (by decide) (by decide) (by decide) (As := [.long (7554780 : Int64)]) (rest := []) rfl (Nat.le_of_ble_eq_true rfl) ?_
  refine V_if_eq (pc := 96) C dX12_readsLine_96 (tgt := 126) (by decide) (fun q3 => ?_) (fun q3 => ?_)
  · replace hyp := (if_pos q3).symm.trans hyp
    refine V_iload_n (pc := 126) C dX12_readsLine_126 rfl ?_
    refine V_if_ge (pc := 127) C dX12_readsLine_127 (tgt := 227) (by decide) (fun q4 => ?_) (fun q4 => ?_)
    · replace hyp := (if_pos q4).symm.trans hyp
      refine V_weak (lv' := [some (.ref 103), none, some (.int x2), none]) (lvle_s (lvle_n (lvle_s (lvle_n lvle_0)))) ?_
      exact (T_X12_readsLine_b227 C) x2 h2 hyp
    · replace hyp := (if_neg q4).symm.trans hyp
      refine V_aload_n (pc := 130) C dX12_readsLine_130 rfl ?_
      refine V_ldc2 (pc := 131) C dX12_readsLine_131 ll_X12_320 ?_
      obtain ⟨r5, h6, eh6, hyp⟩ := bI_n hyp
      refine V_callI (pc := 134) C dX12_readsLine_134 lm_X12_300 mk_X12_isWord ok_103 rfl (M_X12_isWord _ eh6) rfl pd_X12_isWord (by decide) (by decide) (by decide) (As := [.long (9673153 : Int64)]) (rest := []) rfl (Nat.le_of_ble_eq_true rfl) ?_
      refine V_istore_n (pc := 137) C dX12_readsLine_137 (by decide) rfl ?_
      refine V_aload_n (pc := 138) C dX12_readsLine_138 rfl ?_
      obtain ⟨h8, eh8, hyp⟩ := bV_n hyp
      refine V_callV (pc := 139) C dX12_readsLine_139 lm_X12_287 mk_X12_nextToken ok_103 rfl (M_X12_nextToken _ eh8) rfl pd_X12_nextToken (by decide) (by decide) (by decide) (As := []) (rest := []) rfl (Nat.le_of_ble_eq_true rfl) ?_
      refine V_iload_n (pc := 142) C dX12_readsLine_142 rfl ?_
      refine V_if_eq (pc := 143) C dX12_readsLine_143 (tgt := 168) (by decide) (fun q9 => ?_) (fun q9 => ?_)
      · replace hyp := (if_pos q9).symm.trans hyp
        refine V_aload_n (pc := 168) C dX12_readsLine_168 rfl ?_
        refine V_getI (pc := 169) C dX12_readsLine_169 lf_X12_233 fk_103_7 ?_
        refine V_iconst (pc := 172) C dX12_readsLine_172 (v := 2) (by decide) ?_
        refine V_icmp_eq (pc := 173) C dX12_readsLine_173 (tgt := 184) (by decide) (fun q10 => ?_) (fun q10 => ?_)
        · replace hyp := (if_pos q10).symm.trans hyp
          refine V_weak (lv' := [some (.ref 103), none, none, some (.int r5)]) (lvle_s (lvle_n (lvle_n (lvle_s lvle_0)))) ?_
          exact (T_X12_readsLine_b184 C) r5 h8 hyp
        · replace hyp := (if_neg q10).symm.trans hyp
          refine V_weak (lv' := [some (.ref 103), none, none, none]) (lvle_s (lvle_n (lvle_n (lvle_n lvle_0)))) ?_
          exact (T_X12_readsLine_b176 C) h8 hyp
      · replace hyp := (if_neg q9).symm.trans hyp
        refine V_aload_n (pc := 146) C dX12_readsLine_146 rfl ?_
        refine V_getI (pc := 147) C dX12_readsLine_147 lf_X12_233 fk_103_7 ?_
        refine V_iconst (pc := 150) C dX12_readsLine_150 (v := 1) (by decide) ?_
        refine V_icmp_ne (pc := 151) C dX12_readsLine_151 (tgt := 176) (by decide) (fun q11 => ?_) (fun q11 => ?_)
        · replace hyp := (if_neg q11).symm.trans hyp
          refine V_weak (lv' := [some (.ref 103), none, none, none]) (lvle_s (lvle_n (lvle_n (lvle_n lvle_0)))) ?_
          exact (T_X12_readsLine_b176 C) h8 hyp
        · replace hyp := (if_pos q11).symm.trans hyp
          refine V_aload_n (pc := 154) C dX12_readsLine_154 rfl ?_
          refine V_getL (pc := 155) C dX12_readsLine_155 lf_X12_226 fk_103_8 ?_
          refine V_ldc2 (pc := 158) C dX12_readsLine_158 ll_X12_273 ?_
          refine V_lcmp (pc := 161) C dX12_readsLine_161 ?_
          refine V_if_le (pc := 162) C dX12_readsLine_162 (tgt := 184) (by decide) (fun q12 => ?_) (fun q12 => ?_)
          · replace hyp := (if_pos q12).symm.trans hyp
            refine V_weak (lv' := [some (.ref 103), none, none, some (.int r5)]) (lvle_s (lvle_n (lvle_n (lvle_s lvle_0)))) ?_
            exact (T_X12_readsLine_b184 C) r5 h8 hyp
          · replace hyp := (if_neg q12).symm.trans hyp
            refine V_goto (pc := 165) C dX12_readsLine_165 (tgt := 176) (by decide) ?_
            refine V_weak (lv' := [some (.ref 103), none, none, none]) (lvle_s (lvle_n (lvle_n (lvle_n lvle_0)))) ?_
            exact (T_X12_readsLine_b176 C) h8 hyp
  · replace hyp := (if_neg q3).symm.trans hyp
    refine V_iload_n (pc := 99) C dX12_readsLine_99 rfl ?_
    refine V_bipush (pc := 100) C dX12_readsLine_100 (v := 6) (by decide) ?_
    refine V_icmp_ne (pc := 102) C dX12_readsLine_102 (tgt := 111) (by decide) (fun q13 => ?_) (fun q13 => ?_)
    · replace hyp := (if_neg q13).symm.trans hyp
      refine V_weak (lv' := [none, some (.int x1), none, none]) (lvle_n (lvle_s (lvle_n (lvle_n lvle_0)))) ?_
      exact (T_X12_readsLine_b111 C) x1 h2 hyp
    · replace hyp := (if_pos q13).symm.trans hyp
      refine V_aload_n (pc := 105) C dX12_readsLine_105 rfl ?_
      refine V_iconst (pc := 106) C dX12_readsLine_106 (v := 5) (by decide) ?_
      obtain ⟨r14, h15, eh15, hyp⟩ := bI_n hyp
      refine V_callI (pc := 107) C dX12_readsLine_107 lm_X12_290 mk_X12_fails ok_103 rfl (M_X12_fails _ eh15) rfl pd_X12_fails (by decide) (by decide) (by decide) (As := [.int (5 : Int32)]) (rest := []) rfl (Nat.le_of_ble_eq_true rfl) ?_
      refine V_pop (pc := 110) C dX12_readsLine_110 rfl ?_
      refine V_weak (lv' := [none, some (.int x1), none, none]) (lvle_n (lvle_s (lvle_n (lvle_n lvle_0)))) ?_
      exact (T_X12_readsLine_b111 C) x1 h15 hyp
def F_X12_readsLine_b46 (N : Nat) (x1 : Int32) (s0 : Int32) (h : PH) : Option (Int32 × PH) :=
  if 0 ≤ s0 then
    F_X12_readsLine_b89 N x1 s0 h
  else
    bI (F_X12_isWord (9673153 : Int64) h) fun r2 h3 =>
    if r2 = 0 then
      bI (F_X12_isWord (237292 : Int64) h3) fun r5 h6 =>
      if r5 = 0 then
        bI (F_X12_isWord (7554780 : Int64) h6) fun r8 h9 =>
        if r8 = 0 then
          bI (F_X12_fails (1 : Int32) h9) fun r11 h12 =>
          some ((-1 : Int32), h12)
        else
          F_X12_readsLine_b89 N x1 s0 h9
      else
        F_X12_readsLine_b89 N x1 s0 h6
    else
      F_X12_readsLine_b89 N x1 s0 h3
set_option maxRecDepth 20000 in
set_option maxHeartbeats 4000000 in
theorem T_X12_readsLine_b46 {X : CT} (C : CX X 154 cX12_readsLine 4 RX12 (some .int) 2 42) {r0 : Int32} {h0 : PH} {N : Nat} : ∀ (x1 : Int32) (s0 : Int32) (h : PH), F_X12_readsLine_b46 N x1 s0 h = some (r0, h0) → V X (QI X r0 h0) h 46 [some (.ref 103), some (.int x1), none, none] [.int s0] := by
  intro x1 s0 h hyp
  unfold F_X12_readsLine_b46 at hyp
  refine V_istore_n (pc := 46) C dX12_readsLine_46 (by decide) rfl ?_
  refine V_iload_n (pc := 47) C dX12_readsLine_47 rfl ?_
  refine V_if_ge (pc := 48) C dX12_readsLine_48 (tgt := 89) (by decide) (fun q1 => ?_) (fun q1 => ?_)
  · replace hyp := (if_pos q1).symm.trans hyp
    refine V_weak (lv' := [some (.ref 103), some (.int x1), some (.int s0), none]) (lvle_s (lvle_s (lvle_s (lvle_n lvle_0)))) ?_
    exact (T_X12_readsLine_b89 C) x1 s0 h hyp
  · replace hyp := (if_neg q1).symm.trans hyp
    refine V_aload_n (pc := 51) C dX12_readsLine_51 rfl ?_
    refine V_ldc2 (pc := 52) C dX12_readsLine_52 ll_X12_320 ?_
    obtain ⟨r2, h3, eh3, hyp⟩ := bI_n hyp
    refine V_callI (pc := 55) C dX12_readsLine_55 lm_X12_300 mk_X12_isWord ok_103 rfl (M_X12_isWord _ eh3) rfl pd_X12_isWord (by decide) (by decide) (by decide) (As := [.long (9673153 : Int64)]) (rest := []) rfl (Nat.le_of_ble_eq_true rfl) ?_
    refine V_if_ne (pc := 58) C dX12_readsLine_58 (tgt := 89) (by decide) (fun q4 => ?_) (fun q4 => ?_)
    · replace hyp := (if_neg q4).symm.trans hyp
      refine V_weak (lv' := [some (.ref 103), some (.int x1), some (.int s0), none]) (lvle_s (lvle_s (lvle_s (lvle_n lvle_0)))) ?_
      exact (T_X12_readsLine_b89 C) x1 s0 h3 hyp
    · replace hyp := (if_pos q4).symm.trans hyp
      refine V_aload_n (pc := 61) C dX12_readsLine_61 rfl ?_
      refine V_ldc2 (pc := 62) C dX12_readsLine_62 ll_X12_322 ?_
      obtain ⟨r5, h6, eh6, hyp⟩ := bI_n hyp
      refine V_callI (pc := 65) C dX12_readsLine_65 lm_X12_300 mk_X12_isWord ok_103 rfl (M_X12_isWord _ eh6) rfl pd_X12_isWord (by decide) (by decide) (by decide) (As := [.long (237292 : Int64)]) (rest := []) rfl (Nat.le_of_ble_eq_true rfl) ?_
      refine V_if_ne (pc := 68) C dX12_readsLine_68 (tgt := 89) (by decide) (fun q7 => ?_) (fun q7 => ?_)
      · replace hyp := (if_neg q7).symm.trans hyp
        refine V_weak (lv' := [some (.ref 103), some (.int x1), some (.int s0), none]) (lvle_s (lvle_s (lvle_s (lvle_n lvle_0)))) ?_
        exact (T_X12_readsLine_b89 C) x1 s0 h6 hyp
      · replace hyp := (if_pos q7).symm.trans hyp
        refine V_aload_n (pc := 71) C dX12_readsLine_71 rfl ?_
        refine V_ldc2 (pc := 72) C dX12_readsLine_72 ll_X12_324 ?_
        obtain ⟨r8, h9, eh9, hyp⟩ := bI_n hyp
        refine V_callI (pc := 75) C dX12_readsLine_75 lm_X12_300 mk_X12_isWord ok_103 rfl (M_X12_isWord _ eh9) rfl pd_X12_isWord (by decide) (by decide) (by decide) (As := [.long (7554780 : Int64)]) (rest := []) rfl (Nat.le_of_ble_eq_true rfl) ?_
        refine V_if_ne (pc := 78) C dX12_readsLine_78 (tgt := 89) (by decide) (fun q10 => ?_) (fun q10 => ?_)
        · replace hyp := (if_neg q10).symm.trans hyp
          refine V_weak (lv' := [some (.ref 103), some (.int x1), some (.int s0), none]) (lvle_s (lvle_s (lvle_s (lvle_n lvle_0)))) ?_
          exact (T_X12_readsLine_b89 C) x1 s0 h9 hyp
        · replace hyp := (if_pos q10).symm.trans hyp
          refine V_aload_n (pc := 81) C dX12_readsLine_81 rfl ?_
          refine V_iconst (pc := 82) C dX12_readsLine_82 (v := 1) (by decide) ?_
          obtain ⟨r11, h12, eh12, hyp⟩ := bI_n hyp
          refine V_callI (pc := 83) C dX12_readsLine_83 lm_X12_290 mk_X12_fails ok_103 rfl (M_X12_fails _ eh12) rfl pd_X12_fails (by decide) (by decide) (by decide) (As := [.int (1 : Int32)]) (rest := []) rfl (Nat.le_of_ble_eq_true rfl) ?_
          refine V_pop (pc := 86) C dX12_readsLine_86 rfl ?_
          refine V_iconst (pc := 87) C dX12_readsLine_87 (v := -1) (by decide) ?_
          cases hyp
          exact V_iret C dX12_readsLine_88
def F_X12_readsLine (N : Nat) (a1 : Int32) (h : PH) : Option (Int32 × PH) :=
  bI (F_X12_isWord (583 : Int64) h) fun r1 h2 =>
  if r1 = 0 then
    bI (F_X12_isWord (90302 : Int64) h2) fun r4 h5 =>
    if r4 = 0 then
      bI (F_X12_isWord (90090 : Int64) h5) fun r7 h8 =>
      if r7 = 0 then
        F_X12_readsLine_b46 N a1 (-1 : Int32) h8
      else
        F_X12_readsLine_b46 N a1 (10 : Int32) h8
    else
      F_X12_readsLine_b46 N a1 (9 : Int32) h5
  else
    F_X12_readsLine_b46 N a1 (8 : Int32) h2
set_option maxRecDepth 20000 in
set_option maxHeartbeats 4000000 in
theorem M_X12_readsLine (E : EV) {N : Nat} {a1 : Int32} {r : Int32} {h h2 : PH} (hyp : F_X12_readsLine N a1 h = some (r, h2)) : MI E 154 yX12_readsLine cX12_readsLine 4 (some .int) 2 42 [.ref 103, .int a1] h r h2 := by
  refine MI.of 2 (by decide) rfl (fun X e1 C => ?_)
  subst e1
  replace C : CX X 154 cX12_readsLine 4 RX12 (some .int) 2 42 := C
  show V X _ h 0 [some (.ref 103), some (.int a1), none, none] []
  unfold F_X12_readsLine at hyp
  refine V_aload_n (pc := 0) C dX12_readsLine_0 rfl ?_
  refine V_ldc2 (pc := 1) C dX12_readsLine_1 ll_X12_314 ?_
  obtain ⟨r1, h2, eh2, hyp⟩ := bI_n hyp
  refine V_callI (pc := 4) C dX12_readsLine_4 lm_X12_300 mk_X12_isWord ok_103 rfl (M_X12_isWord _ eh2) rfl pd_X12_isWord (by decide) (by decide) (by decide) (As := [.long (583 : Int64)]) (rest := []) rfl (Nat.le_of_ble_eq_true rfl) ?_
  refine V_if_eq (pc := 7) C dX12_readsLine_7 (tgt := 15) (by decide) (fun q3 => ?_) (fun q3 => ?_)
  · replace hyp := (if_pos q3).symm.trans hyp
    refine V_aload_n (pc := 15) C dX12_readsLine_15 rfl ?_
    refine V_ldc2 (pc := 16) C dX12_readsLine_16 ll_X12_316 ?_
    obtain ⟨r4, h5, eh5, hyp⟩ := bI_n hyp
    refine V_callI (pc := 19) C dX12_readsLine_19 lm_X12_300 mk_X12_isWord ok_103 rfl (M_X12_isWord _ eh5) rfl pd_X12_isWord (by decide) (by decide) (by decide) (As := [.long (90302 : Int64)]) (rest := []) rfl (Nat.le_of_ble_eq_true rfl) ?_
    refine V_if_eq (pc := 22) C dX12_readsLine_22 (tgt := 30) (by decide) (fun q6 => ?_) (fun q6 => ?_)
    · replace hyp := (if_pos q6).symm.trans hyp
      refine V_aload_n (pc := 30) C dX12_readsLine_30 rfl ?_
      refine V_ldc2 (pc := 31) C dX12_readsLine_31 ll_X12_318 ?_
      obtain ⟨r7, h8, eh8, hyp⟩ := bI_n hyp
      refine V_callI (pc := 34) C dX12_readsLine_34 lm_X12_300 mk_X12_isWord ok_103 rfl (M_X12_isWord _ eh8) rfl pd_X12_isWord (by decide) (by decide) (by decide) (As := [.long (90090 : Int64)]) (rest := []) rfl (Nat.le_of_ble_eq_true rfl) ?_
      refine V_if_eq (pc := 37) C dX12_readsLine_37 (tgt := 45) (by decide) (fun q9 => ?_) (fun q9 => ?_)
      · replace hyp := (if_pos q9).symm.trans hyp
        refine V_iconst (pc := 45) C dX12_readsLine_45 (v := -1) (by decide) ?_
        refine V_weak (lv' := [some (.ref 103), some (.int a1), none, none]) (lvle_s (lvle_s (lvle_n (lvle_n lvle_0)))) ?_
        exact (T_X12_readsLine_b46 C) a1 (-1 : Int32) h8 hyp
      · replace hyp := (if_neg q9).symm.trans hyp
        refine V_bipush (pc := 40) C dX12_readsLine_40 (v := 10) (by decide) ?_
        refine V_goto (pc := 42) C dX12_readsLine_42 (tgt := 46) (by decide) ?_
        refine V_weak (lv' := [some (.ref 103), some (.int a1), none, none]) (lvle_s (lvle_s (lvle_n (lvle_n lvle_0)))) ?_
        exact (T_X12_readsLine_b46 C) a1 (10 : Int32) h8 hyp
    · replace hyp := (if_neg q6).symm.trans hyp
      refine V_bipush (pc := 25) C dX12_readsLine_25 (v := 9) (by decide) ?_
      refine V_goto (pc := 27) C dX12_readsLine_27 (tgt := 46) (by decide) ?_
      refine V_weak (lv' := [some (.ref 103), some (.int a1), none, none]) (lvle_s (lvle_s (lvle_n (lvle_n lvle_0)))) ?_
      exact (T_X12_readsLine_b46 C) a1 (9 : Int32) h5 hyp
  · replace hyp := (if_neg q3).symm.trans hyp
    refine V_bipush (pc := 10) C dX12_readsLine_10 (v := 8) (by decide) ?_
    refine V_goto (pc := 12) C dX12_readsLine_12 (tgt := 46) (by decide) ?_
    refine V_weak (lv' := [some (.ref 103), some (.int a1), none, none]) (lvle_s (lvle_s (lvle_n (lvle_n lvle_0)))) ?_
    exact (T_X12_readsLine_b46 C) a1 (8 : Int32) h2 hyp
theorem dX12_readsCircuit_0 : decode cX12_readsCircuit 0 = .ok (.iconst 0, 1) := by decide +kernel
theorem dX12_readsCircuit_1 : decode cX12_readsCircuit 1 = .ok (.istore_n 1, 1) := by decide +kernel
theorem dX12_readsCircuit_2 : decode cX12_readsCircuit 2 = .ok (.aload_n 0, 1) := by decide +kernel
theorem dX12_readsCircuit_3 : decode cX12_readsCircuit 3 = .ok (.getfield 233, 3) := by decide +kernel
theorem dX12_readsCircuit_6 : decode cX12_readsCircuit 6 = .ok (.ifCond .eq 89, 3) := by decide +kernel
theorem dX12_readsCircuit_9 : decode cX12_readsCircuit 9 = .ok (.aload_n 0, 1) := by decide +kernel
theorem dX12_readsCircuit_10 : decode cX12_readsCircuit 10 = .ok (.iload_n 1, 1) := by decide +kernel
theorem dX12_readsCircuit_11 : decode cX12_readsCircuit 11 = .ok (.invokevirtual 326, 3) := by decide +kernel
theorem dX12_readsCircuit_14 : decode cX12_readsCircuit 14 = .ok (.istore_n 2, 1) := by decide +kernel
theorem dX12_readsCircuit_15 : decode cX12_readsCircuit 15 = .ok (.iload_n 2, 1) := by decide +kernel
theorem dX12_readsCircuit_16 : decode cX12_readsCircuit 16 = .ok (.ifCond .ge 5, 3) := by decide +kernel
theorem dX12_readsCircuit_19 : decode cX12_readsCircuit 19 = .ok (.iconst 0, 1) := by decide +kernel
theorem dX12_readsCircuit_20 : decode cX12_readsCircuit 20 = .ok (.ireturn, 1) := by decide +kernel
theorem dX12_readsCircuit_21 : decode cX12_readsCircuit 21 = .ok (.aload_n 0, 1) := by decide +kernel
theorem dX12_readsCircuit_22 : decode cX12_readsCircuit 22 = .ok (.invokevirtual 287, 3) := by decide +kernel
theorem dX12_readsCircuit_25 : decode cX12_readsCircuit 25 = .ok (.iload_n 2, 1) := by decide +kernel
theorem dX12_readsCircuit_26 : decode cX12_readsCircuit 26 = .ok (.bipush 19, 2) := by decide +kernel
theorem dX12_readsCircuit_28 : decode cX12_readsCircuit 28 = .ok (.if_icmp .ge 25, 3) := by decide +kernel
theorem dX12_readsCircuit_31 : decode cX12_readsCircuit 31 = .ok (.aload_n 0, 1) := by decide +kernel
theorem dX12_readsCircuit_32 : decode cX12_readsCircuit 32 = .ok (.bipush 61, 2) := by decide +kernel
theorem dX12_readsCircuit_34 : decode cX12_readsCircuit 34 = .ok (.invokevirtual 304, 3) := by decide +kernel
theorem dX12_readsCircuit_37 : decode cX12_readsCircuit 37 = .ok (.ifCond .ne 9, 3) := by decide +kernel
theorem dX12_readsCircuit_40 : decode cX12_readsCircuit 40 = .ok (.aload_n 0, 1) := by decide +kernel
theorem dX12_readsCircuit_41 : decode cX12_readsCircuit 41 = .ok (.iconst 1, 1) := by decide +kernel
theorem dX12_readsCircuit_42 : decode cX12_readsCircuit 42 = .ok (.invokevirtual 290, 3) := by decide +kernel
theorem dX12_readsCircuit_45 : decode cX12_readsCircuit 45 = .ok (.ireturn, 1) := by decide +kernel
theorem dX12_readsCircuit_46 : decode cX12_readsCircuit 46 = .ok (.aload_n 0, 1) := by decide +kernel
theorem dX12_readsCircuit_47 : decode cX12_readsCircuit 47 = .ok (.invokevirtual 287, 3) := by decide +kernel
theorem dX12_readsCircuit_50 : decode cX12_readsCircuit 50 = .ok (.goto 6, 3) := by decide +kernel
theorem dX12_readsCircuit_53 : decode cX12_readsCircuit 53 = .ok (.iinc 1 1, 3) := by decide +kernel
theorem dX12_readsCircuit_56 : decode cX12_readsCircuit 56 = .ok (.aload_n 0, 1) := by decide +kernel
theorem dX12_readsCircuit_57 : decode cX12_readsCircuit 57 = .ok (.getfield 30, 3) := by decide +kernel
theorem dX12_readsCircuit_60 : decode cX12_readsCircuit 60 = .ok (.iload_n 2, 1) := by decide +kernel
theorem dX12_readsCircuit_61 : decode cX12_readsCircuit 61 = .ok (.aload_n 0, 1) := by decide +kernel
theorem dX12_readsCircuit_62 : decode cX12_readsCircuit 62 = .ok (.getfield 247, 3) := by decide +kernel
theorem dX12_readsCircuit_65 : decode cX12_readsCircuit 65 = .ok (.iastore, 1) := by decide +kernel
theorem dX12_readsCircuit_66 : decode cX12_readsCircuit 66 = .ok (.aload_n 0, 1) := by decide +kernel
theorem dX12_readsCircuit_67 : decode cX12_readsCircuit 67 = .ok (.invokevirtual 329, 3) := by decide +kernel
theorem dX12_readsCircuit_70 : decode cX12_readsCircuit 70 = .ok (.ifCond .ne 5, 3) := by decide +kernel
theorem dX12_readsCircuit_73 : decode cX12_readsCircuit 73 = .ok (.iconst 0, 1) := by decide +kernel
theorem dX12_readsCircuit_74 : decode cX12_readsCircuit 74 = .ok (.ireturn, 1) := by decide +kernel
theorem dX12_readsCircuit_75 : decode cX12_readsCircuit 75 = .ok (.aload_n 0, 1) := by decide +kernel
theorem dX12_readsCircuit_76 : decode cX12_readsCircuit 76 = .ok (.getfield 33, 3) := by decide +kernel
theorem dX12_readsCircuit_79 : decode cX12_readsCircuit 79 = .ok (.iload_n 2, 1) := by decide +kernel
theorem dX12_readsCircuit_80 : decode cX12_readsCircuit 80 = .ok (.aload_n 0, 1) := by decide +kernel
theorem dX12_readsCircuit_81 : decode cX12_readsCircuit 81 = .ok (.getfield 247, 3) := by decide +kernel
theorem dX12_readsCircuit_84 : decode cX12_readsCircuit 84 = .ok (.iastore, 1) := by decide +kernel
theorem dX12_readsCircuit_85 : decode cX12_readsCircuit 85 = .ok (.aload_n 0, 1) := by decide +kernel
theorem dX12_readsCircuit_86 : decode cX12_readsCircuit 86 = .ok (.getfield 27, 3) := by decide +kernel
theorem dX12_readsCircuit_89 : decode cX12_readsCircuit 89 = .ok (.iload_n 2, 1) := by decide +kernel
theorem dX12_readsCircuit_90 : decode cX12_readsCircuit 90 = .ok (.iconst 1, 1) := by decide +kernel
theorem dX12_readsCircuit_91 : decode cX12_readsCircuit 91 = .ok (.bastore, 1) := by decide +kernel
theorem dX12_readsCircuit_92 : decode cX12_readsCircuit 92 = .ok (.goto (-90), 3) := by decide +kernel
theorem dX12_readsCircuit_95 : decode cX12_readsCircuit 95 = .ok (.iconst 1, 1) := by decide +kernel
theorem dX12_readsCircuit_96 : decode cX12_readsCircuit 96 = .ok (.ireturn, 1) := by decide +kernel
def F_X12_readsCircuit_b40 (N : Nat) (h : PH) : Option (Int32 × PH) :=
  bI (F_X12_fails (1 : Int32) h) fun r1 h2 =>
  if zb r1 = true then
  some (r1, h2)
  else none
set_option maxRecDepth 20000 in
set_option maxHeartbeats 4000000 in
theorem T_X12_readsCircuit_b40 {X : CT} (C : CX X 154 cX12_readsCircuit 3 RX12 (some .boolean) 4 88) {r0 : Int32} {h0 : PH} {N : Nat} : ∀ (h : PH), F_X12_readsCircuit_b40 N  h = some (r0, h0) → V X (QI X r0 h0) h 40 [some (.ref 103), none, none] [] := by
  intro  h hyp
  unfold F_X12_readsCircuit_b40 at hyp
  refine V_aload_n (pc := 40) C dX12_readsCircuit_40 rfl ?_
  refine V_iconst (pc := 41) C dX12_readsCircuit_41 (v := 1) (by decide) ?_
  obtain ⟨r1, h2, eh2, hyp⟩ := bI_n hyp
  refine V_callI (pc := 42) C dX12_readsCircuit_42 lm_X12_290 mk_X12_fails ok_103 rfl (M_X12_fails _ eh2) rfl pd_X12_fails (by decide) (by decide) (by decide) (As := [.int (1 : Int32)]) (rest := []) rfl (Nat.le_of_ble_eq_true rfl) ?_
  obtain ⟨g3, hyp⟩ := gd_n hyp
  cases hyp
  exact V_zret C dX12_readsCircuit_45 (zb_n g3).1
def F_X12_readsCircuit_b56 (N : Nat) (rc2 : Int32 → PH → Option (Int32 × PH)) (x1 : Int32) (x2 : Int32) (h : PH) : Option (Int32 × PH) :=
  if inb x2 26 = true then
  hb (hs h 109 x2.toNatClampNeg (h.1 103 18)) fun h2 =>
  bI (F_X12_reads N  h2) fun r3 h4 =>
  if r3 = 0 then
    some ((0 : Int32), h4)
  else
    if inb x2 26 = true then
    hb (hs h4 110 x2.toNatClampNeg (h4.1 103 18)) fun h7 =>
    hb (hs h7 108 x2.toNatClampNeg (vp_nar .boolean (1 : Int32))) fun h8 =>
    rc2 x1 h8
    else none
  else none
set_option maxRecDepth 20000 in
set_option maxHeartbeats 4000000 in
theorem T_X12_readsCircuit_b56 {X : CT} (C : CX X 154 cX12_readsCircuit 3 RX12 (some .boolean) 4 88) {r0 : Int32} {h0 : PH} {N : Nat} {rc2 : Int32 → PH → Option (Int32 × PH)} (hr2 : ∀ (x1 : Int32) (h : PH), rc2 x1 h = some (r0, h0) → V X (QI X r0 h0) h 2 [some (.ref 103), some (.int x1), none] []) : ∀ (x1 : Int32) (x2 : Int32) (h : PH), F_X12_readsCircuit_b56 N rc2 x1 x2 h = some (r0, h0) → V X (QI X r0 h0) h 56 [some (.ref 103), some (.int x1), some (.int x2)] [] := by
  intro x1 x2 h hyp
  unfold F_X12_readsCircuit_b56 at hyp
  refine V_aload_n (pc := 56) C dX12_readsCircuit_56 rfl ?_
  refine V_getR (pc := 57) C dX12_readsCircuit_57 lf_X12_30 fk_103_15 ?_
  refine V_iload_n (pc := 60) C dX12_readsCircuit_60 rfl ?_
  refine V_aload_n (pc := 61) C dX12_readsCircuit_61 rfl ?_
  refine V_getI (pc := 62) C dX12_readsCircuit_62 lf_X12_247 fk_103_18 ?_
  obtain ⟨g1, hyp⟩ := gd_n hyp
  obtain ⟨h2, eh2, hyp⟩ := hb_n hyp
  refine V_iast (pc := 65) C dX12_readsCircuit_65 ak_109 g1 eh2 ?_
  refine V_aload_n (pc := 66) C dX12_readsCircuit_66 rfl ?_
  obtain ⟨r3, h4, eh4, hyp⟩ := bI_n hyp
  refine V_callI (pc := 67) C dX12_readsCircuit_67 lm_X12_329 mk_X12_reads ok_103 rfl (M_X12_reads _ eh4) rfl pd_X12_reads (by decide) (by decide) (by decide) (As := []) (rest := []) rfl (Nat.le_of_ble_eq_true rfl) ?_
  refine V_if_ne (pc := 70) C dX12_readsCircuit_70 (tgt := 75) (by decide) (fun q5 => ?_) (fun q5 => ?_)
  · replace hyp := (if_neg q5).symm.trans hyp
    refine V_aload_n (pc := 75) C dX12_readsCircuit_75 rfl ?_
    refine V_getR (pc := 76) C dX12_readsCircuit_76 lf_X12_33 fk_103_16 ?_
    refine V_iload_n (pc := 79) C dX12_readsCircuit_79 rfl ?_
    refine V_aload_n (pc := 80) C dX12_readsCircuit_80 rfl ?_
    refine V_getI (pc := 81) C dX12_readsCircuit_81 lf_X12_247 fk_103_18 ?_
    obtain ⟨g6, hyp⟩ := gd_n hyp
    obtain ⟨h7, eh7, hyp⟩ := hb_n hyp
    refine V_iast (pc := 84) C dX12_readsCircuit_84 ak_110 g6 eh7 ?_
    refine V_aload_n (pc := 85) C dX12_readsCircuit_85 rfl ?_
    refine V_getR (pc := 86) C dX12_readsCircuit_86 lf_X12_27 fk_103_14 ?_
    refine V_iload_n (pc := 89) C dX12_readsCircuit_89 rfl ?_
    refine V_iconst (pc := 90) C dX12_readsCircuit_90 (v := 1) (by decide) ?_
    obtain ⟨h8, eh8, hyp⟩ := hb_n hyp
    refine V_zast (pc := 91) C dX12_readsCircuit_91 ak_108 g6 eh8 ?_
    refine V_goto (pc := 92) C dX12_readsCircuit_92 (tgt := 2) (by decide) ?_
    refine V_weak (lv' := [some (.ref 103), some (.int x1), none]) (lvle_s (lvle_s (lvle_n lvle_0))) ?_
    exact hr2 x1 h8 hyp
  · replace hyp := (if_pos q5).symm.trans hyp
    refine V_iconst (pc := 73) C dX12_readsCircuit_73 (v := 0) (by decide) ?_
    cases hyp
    exact V_zret C dX12_readsCircuit_74 rfl
def F_X12_readsCircuit_b2 (N : Nat) : Nat → Int32 → PH → Option (Int32 × PH)
  | 0, _, _ => none
  | n + 1, x1, h =>
    if (h.1 103 7) = 0 then
      some ((1 : Int32), h)
    else
      bI (F_X12_readsLine N x1 h) fun r2 h3 =>
      if 0 ≤ r2 then
        bV (F_X12_nextToken N  h3) fun h6 =>
        if (19 : Int32) ≤ r2 then
          ib (x1 + (1 : Int32)) fun v8 =>
          F_X12_readsCircuit_b56 N (F_X12_readsCircuit_b2 N n) v8 r2 h6
        else
          bI (F_X12_isSign (61 : Int32) h6) fun r9 h10 =>
          if r9 = 0 then
            F_X12_readsCircuit_b40 N  h10
          else
            bV (F_X12_nextToken N  h10) fun h13 =>
            F_X12_readsCircuit_b56 N (F_X12_readsCircuit_b2 N n) x1 r2 h13
      else
        some ((0 : Int32), h3)
set_option maxRecDepth 20000 in
set_option maxHeartbeats 4000000 in
theorem T_X12_readsCircuit_b2 {X : CT} (C : CX X 154 cX12_readsCircuit 3 RX12 (some .boolean) 4 88) {r0 : Int32} {h0 : PH} {N : Nat} : ∀ (n : Nat) (x1 : Int32) (h : PH), F_X12_readsCircuit_b2 N n x1 h = some (r0, h0) → V X (QI X r0 h0) h 2 [some (.ref 103), some (.int x1), none] [] := by
  intro n
  induction n with
  | zero =>
    intro x1 h hyp
    cases hyp
  | succ n ih =>
    intro x1 h hyp
    unfold F_X12_readsCircuit_b2 at hyp
    refine V_aload_n (pc := 2) C dX12_readsCircuit_2 rfl ?_
    refine V_getI (pc := 3) C dX12_readsCircuit_3 lf_X12_233 fk_103_7 ?_
    refine V_if_eq (pc := 6) C dX12_readsCircuit_6 (tgt := 95) (by decide) (fun q1 => ?_) (fun q1 => ?_)
    · replace hyp := (if_pos q1).symm.trans hyp
      refine V_iconst (pc := 95) C dX12_readsCircuit_95 (v := 1) (by decide) ?_
      cases hyp
      exact V_zret C dX12_readsCircuit_96 rfl
    · replace hyp := (if_neg q1).symm.trans hyp
      refine V_aload_n (pc := 9) C dX12_readsCircuit_9 rfl ?_
      refine V_iload_n (pc := 10) C dX12_readsCircuit_10 rfl ?_
      obtain ⟨r2, h3, eh3, hyp⟩ := bI_n hyp
      refine V_callI (pc := 11) C dX12_readsCircuit_11 lm_X12_326 mk_X12_readsLine ok_103 rfl (M_X12_readsLine _ eh3) rfl pd_X12_readsLine (by decide) (by decide) (by decide) (As := [.int x1]) (rest := []) rfl (Nat.le_of_ble_eq_true rfl) ?_
      refine V_istore_n (pc := 14) C dX12_readsCircuit_14 (by decide) rfl ?_
      refine V_iload_n (pc := 15) C dX12_readsCircuit_15 rfl ?_
      refine V_if_ge (pc := 16) C dX12_readsCircuit_16 (tgt := 21) (by decide) (fun q4 => ?_) (fun q4 => ?_)
      · replace hyp := (if_pos q4).symm.trans hyp
        refine V_aload_n (pc := 21) C dX12_readsCircuit_21 rfl ?_
        obtain ⟨h6, eh6, hyp⟩ := bV_n hyp
        refine V_callV (pc := 22) C dX12_readsCircuit_22 lm_X12_287 mk_X12_nextToken ok_103 rfl (M_X12_nextToken _ eh6) rfl pd_X12_nextToken (by decide) (by decide) (by decide) (As := []) (rest := []) rfl (Nat.le_of_ble_eq_true rfl) ?_
        refine V_iload_n (pc := 25) C dX12_readsCircuit_25 rfl ?_
        refine V_bipush (pc := 26) C dX12_readsCircuit_26 (v := 19) (by decide) ?_
        refine V_icmp_ge (pc := 28) C dX12_readsCircuit_28 (tgt := 53) (by decide) (fun q7 => ?_) (fun q7 => ?_)
        · replace hyp := (if_pos q7).symm.trans hyp
          obtain ⟨v8, ev8, hyp⟩ := ib_n hyp
          refine V_iinc (pc := 53) C dX12_readsCircuit_53 (v := v8) rfl (by rw [ev8]; rfl) (by decide) rfl ?_
          refine V_weak (lv' := [some (.ref 103), some (.int v8), some (.int r2)]) (lvle_s (lvle_s (lvle_s lvle_0))) ?_
          exact (T_X12_readsCircuit_b56 C ih) v8 r2 h6 hyp
        · replace hyp := (if_neg q7).symm.trans hyp
          refine V_aload_n (pc := 31) C dX12_readsCircuit_31 rfl ?_
          refine V_bipush (pc := 32) C dX12_readsCircuit_32 (v := 61) (by decide) ?_
          obtain ⟨r9, h10, eh10, hyp⟩ := bI_n hyp
          refine V_callI (pc := 34) C dX12_readsCircuit_34 lm_X12_304 mk_X12_isSign ok_103 rfl (M_X12_isSign _ eh10) rfl pd_X12_isSign (by decide) (by decide) (by decide) (As := [.int (61 : Int32)]) (rest := []) rfl (Nat.le_of_ble_eq_true rfl) ?_
          refine V_if_ne (pc := 37) C dX12_readsCircuit_37 (tgt := 46) (by decide) (fun q11 => ?_) (fun q11 => ?_)
          · replace hyp := (if_neg q11).symm.trans hyp
            refine V_aload_n (pc := 46) C dX12_readsCircuit_46 rfl ?_
            obtain ⟨h13, eh13, hyp⟩ := bV_n hyp
            refine V_callV (pc := 47) C dX12_readsCircuit_47 lm_X12_287 mk_X12_nextToken ok_103 rfl (M_X12_nextToken _ eh13) rfl pd_X12_nextToken (by decide) (by decide) (by decide) (As := []) (rest := []) rfl (Nat.le_of_ble_eq_true rfl) ?_
            refine V_goto (pc := 50) C dX12_readsCircuit_50 (tgt := 56) (by decide) ?_
            refine V_weak (lv' := [some (.ref 103), some (.int x1), some (.int r2)]) (lvle_s (lvle_s (lvle_s lvle_0))) ?_
            exact (T_X12_readsCircuit_b56 C ih) x1 r2 h13 hyp
          · replace hyp := (if_pos q11).symm.trans hyp
            refine V_weak (lv' := [some (.ref 103), none, none]) (lvle_s (lvle_n (lvle_n lvle_0))) ?_
            exact (T_X12_readsCircuit_b40 C) h10 hyp
      · replace hyp := (if_neg q4).symm.trans hyp
        refine V_iconst (pc := 19) C dX12_readsCircuit_19 (v := 0) (by decide) ?_
        cases hyp
        exact V_zret C dX12_readsCircuit_20 rfl
def F_X12_readsCircuit (N : Nat) (h : PH) : Option (Int32 × PH) :=
  F_X12_readsCircuit_b2 N N (0 : Int32) h
set_option maxRecDepth 20000 in
set_option maxHeartbeats 4000000 in
theorem M_X12_readsCircuit (E : EV) {N : Nat} {r : Int32} {h h2 : PH} (hyp : F_X12_readsCircuit N  h = some (r, h2)) : MI E 154 yX12_readsCircuit cX12_readsCircuit 3 (some .boolean) 4 88 [.ref 103] h r h2 := by
  refine MI.of 2 (by decide) rfl (fun X e1 C => ?_)
  subst e1
  replace C : CX X 154 cX12_readsCircuit 3 RX12 (some .boolean) 4 88 := C
  show V X _ h 0 [some (.ref 103), none, none] []
  unfold F_X12_readsCircuit at hyp
  refine V_iconst (pc := 0) C dX12_readsCircuit_0 (v := 0) (by decide) ?_
  refine V_istore_n (pc := 1) C dX12_readsCircuit_1 (by decide) rfl ?_
  refine V_weak (lv' := [some (.ref 103), some (.int (0 : Int32)), none]) (lvle_s (lvle_s (lvle_n lvle_0))) ?_
  exact (T_X12_readsCircuit_b2 C) N (0 : Int32) h hyp
theorem dX12_takesTape_0 : decode cX12_takesTape 0 = .ok (.aload_n 0, 1) := by decide +kernel
theorem dX12_takesTape_1 : decode cX12_takesTape 1 = .ok (.aload_n 0, 1) := by decide +kernel
theorem dX12_takesTape_2 : decode cX12_takesTape 2 = .ok (.getfield 214, 3) := by decide +kernel
theorem dX12_takesTape_5 : decode cX12_takesTape 5 = .ok (.putfield 217, 3) := by decide +kernel
theorem dX12_takesTape_8 : decode cX12_takesTape 8 = .ok (.aload_n 0, 1) := by decide +kernel
theorem dX12_takesTape_9 : decode cX12_takesTape 9 = .ok (.iconst 0, 1) := by decide +kernel
theorem dX12_takesTape_10 : decode cX12_takesTape 10 = .ok (.putfield 214, 3) := by decide +kernel
theorem dX12_takesTape_13 : decode cX12_takesTape 13 = .ok (.aload_n 0, 1) := by decide +kernel
theorem dX12_takesTape_14 : decode cX12_takesTape 14 = .ok (.iconst 0, 1) := by decide +kernel
theorem dX12_takesTape_15 : decode cX12_takesTape 15 = .ok (.putfield 220, 3) := by decide +kernel
theorem dX12_takesTape_18 : decode cX12_takesTape 18 = .ok (.aload_n 0, 1) := by decide +kernel
theorem dX12_takesTape_19 : decode cX12_takesTape 19 = .ok (.invokevirtual 287, 3) := by decide +kernel
theorem dX12_takesTape_22 : decode cX12_takesTape 22 = .ok (.return_, 1) := by decide +kernel
def F_X12_takesTape (N : Nat) (h : PH) : Option PH :=
  hb (hs h 103 4 (h.1 103 2)) fun h1 =>
  hb (hs h1 103 2 (0 : Int32)) fun h2 =>
  hb (hs h2 103 5 (0 : Int32)) fun h3 =>
  bV (F_X12_nextToken N  h3) fun h5 =>
  some h5
set_option maxRecDepth 20000 in
set_option maxHeartbeats 4000000 in
theorem M_X12_takesTape (E : EV) {N : Nat} {h h2 : PH} (hyp : F_X12_takesTape N  h = some h2) : MV E 154 yX12_takesTape cX12_takesTape 1 none 2 42 [.ref 103] h h2 := by
  refine MV.of 0 (by decide) rfl (fun X e1 C => ?_)
  subst e1
  replace C : CX X 154 cX12_takesTape 1 RX12 none 2 42 := C
  show V X _ h 0 [some (.ref 103)] []
  unfold F_X12_takesTape at hyp
  refine V_aload_n (pc := 0) C dX12_takesTape_0 rfl ?_
  refine V_aload_n (pc := 1) C dX12_takesTape_1 rfl ?_
  refine V_getI (pc := 2) C dX12_takesTape_2 lf_X12_214 fk_103_2 ?_
  obtain ⟨h1, eh1, hyp⟩ := hb_n hyp
  refine V_putI (pc := 5) C dX12_takesTape_5 lf_X12_217 fk_103_4 rfl rfl eh1 ?_
  refine V_aload_n (pc := 8) C dX12_takesTape_8 rfl ?_
  refine V_iconst (pc := 9) C dX12_takesTape_9 (v := 0) (by decide) ?_
  obtain ⟨h2, eh2, hyp⟩ := hb_n hyp
  refine V_putI (pc := 10) C dX12_takesTape_10 lf_X12_214 fk_103_2 rfl rfl eh2 ?_
  refine V_aload_n (pc := 13) C dX12_takesTape_13 rfl ?_
  refine V_iconst (pc := 14) C dX12_takesTape_14 (v := 0) (by decide) ?_
  obtain ⟨h3, eh3, hyp⟩ := hb_n hyp
  refine V_putI (pc := 15) C dX12_takesTape_15 lf_X12_220 fk_103_5 rfl rfl eh3 ?_
  refine V_aload_n (pc := 18) C dX12_takesTape_18 rfl ?_
  obtain ⟨h5, eh5, hyp⟩ := bV_n hyp
  refine V_callV (pc := 19) C dX12_takesTape_19 lm_X12_287 mk_X12_nextToken ok_103 rfl (M_X12_nextToken _ eh5) rfl pd_X12_nextToken (by decide) (by decide) (by decide) (As := []) (rest := []) rfl (Nat.le_of_ble_eq_true rfl) ?_
  cases hyp
  exact V_vret C dX12_takesTape_22
theorem dX12_circuit_0 : decode cX12_circuit 0 = .ok (.aload_n 0, 1) := by decide +kernel
theorem dX12_circuit_1 : decode cX12_circuit 1 = .ok (.iconst 0, 1) := by decide +kernel
theorem dX12_circuit_2 : decode cX12_circuit 2 = .ok (.putfield 180, 3) := by decide +kernel
theorem dX12_circuit_5 : decode cX12_circuit 5 = .ok (.aload_n 0, 1) := by decide +kernel
theorem dX12_circuit_6 : decode cX12_circuit 6 = .ok (.iconst 0, 1) := by decide +kernel
theorem dX12_circuit_7 : decode cX12_circuit 7 = .ok (.putfield 250, 3) := by decide +kernel
theorem dX12_circuit_10 : decode cX12_circuit 10 = .ok (.aload_n 0, 1) := by decide +kernel
theorem dX12_circuit_11 : decode cX12_circuit 11 = .ok (.sipush 2000, 3) := by decide +kernel
theorem dX12_circuit_14 : decode cX12_circuit 14 = .ok (.putfield 247, 3) := by decide +kernel
theorem dX12_circuit_17 : decode cX12_circuit 17 = .ok (.iconst 0, 1) := by decide +kernel
theorem dX12_circuit_18 : decode cX12_circuit 18 = .ok (.istore_n 1, 1) := by decide +kernel
theorem dX12_circuit_19 : decode cX12_circuit 19 = .ok (.iload_n 1, 1) := by decide +kernel
theorem dX12_circuit_20 : decode cX12_circuit 20 = .ok (.bipush 25, 2) := by decide +kernel
theorem dX12_circuit_22 : decode cX12_circuit 22 = .ok (.if_icmp .ge 16, 3) := by decide +kernel
theorem dX12_circuit_25 : decode cX12_circuit 25 = .ok (.aload_n 0, 1) := by decide +kernel
theorem dX12_circuit_26 : decode cX12_circuit 26 = .ok (.getfield 27, 3) := by decide +kernel
theorem dX12_circuit_29 : decode cX12_circuit 29 = .ok (.iload_n 1, 1) := by decide +kernel
theorem dX12_circuit_30 : decode cX12_circuit 30 = .ok (.iconst 0, 1) := by decide +kernel
theorem dX12_circuit_31 : decode cX12_circuit 31 = .ok (.bastore, 1) := by decide +kernel
theorem dX12_circuit_32 : decode cX12_circuit 32 = .ok (.iinc 1 1, 3) := by decide +kernel
theorem dX12_circuit_35 : decode cX12_circuit 35 = .ok (.goto (-16), 3) := by decide +kernel
theorem dX12_circuit_38 : decode cX12_circuit 38 = .ok (.aload_n 0, 1) := by decide +kernel
theorem dX12_circuit_39 : decode cX12_circuit 39 = .ok (.invokevirtual 333, 3) := by decide +kernel
theorem dX12_circuit_42 : decode cX12_circuit 42 = .ok (.aload_n 0, 1) := by decide +kernel
theorem dX12_circuit_43 : decode cX12_circuit 43 = .ok (.invokevirtual 336, 3) := by decide +kernel
theorem dX12_circuit_46 : decode cX12_circuit 46 = .ok (.ifCond .ne 8, 3) := by decide +kernel
theorem dX12_circuit_49 : decode cX12_circuit 49 = .ok (.aload_n 0, 1) := by decide +kernel
theorem dX12_circuit_50 : decode cX12_circuit 50 = .ok (.getfield 244, 3) := by decide +kernel
theorem dX12_circuit_53 : decode cX12_circuit 53 = .ok (.ireturn, 1) := by decide +kernel
theorem dX12_circuit_54 : decode cX12_circuit 54 = .ok (.iconst 0, 1) := by decide +kernel
theorem dX12_circuit_55 : decode cX12_circuit 55 = .ok (.istore_n 1, 1) := by decide +kernel
theorem dX12_circuit_56 : decode cX12_circuit 56 = .ok (.iload_n 1, 1) := by decide +kernel
theorem dX12_circuit_57 : decode cX12_circuit 57 = .ok (.bipush 25, 2) := by decide +kernel
theorem dX12_circuit_59 : decode cX12_circuit 59 = .ok (.if_icmp .ge 53, 3) := by decide +kernel
theorem dX12_circuit_62 : decode cX12_circuit 62 = .ok (.aload_n 0, 1) := by decide +kernel
theorem dX12_circuit_63 : decode cX12_circuit 63 = .ok (.getfield 17, 3) := by decide +kernel
theorem dX12_circuit_66 : decode cX12_circuit 66 = .ok (.iload_n 1, 1) := by decide +kernel
theorem dX12_circuit_67 : decode cX12_circuit 67 = .ok (.aload_n 0, 1) := by decide +kernel
theorem dX12_circuit_68 : decode cX12_circuit 68 = .ok (.getfield 27, 3) := by decide +kernel
theorem dX12_circuit_71 : decode cX12_circuit 71 = .ok (.iload_n 1, 1) := by decide +kernel
theorem dX12_circuit_72 : decode cX12_circuit 72 = .ok (.baload, 1) := by decide +kernel
theorem dX12_circuit_73 : decode cX12_circuit 73 = .ok (.bastore, 1) := by decide +kernel
theorem dX12_circuit_74 : decode cX12_circuit 74 = .ok (.aload_n 0, 1) := by decide +kernel
theorem dX12_circuit_75 : decode cX12_circuit 75 = .ok (.getfield 21, 3) := by decide +kernel
theorem dX12_circuit_78 : decode cX12_circuit 78 = .ok (.iload_n 1, 1) := by decide +kernel
theorem dX12_circuit_79 : decode cX12_circuit 79 = .ok (.aload_n 0, 1) := by decide +kernel
theorem dX12_circuit_80 : decode cX12_circuit 80 = .ok (.getfield 30, 3) := by decide +kernel
theorem dX12_circuit_83 : decode cX12_circuit 83 = .ok (.iload_n 1, 1) := by decide +kernel
theorem dX12_circuit_84 : decode cX12_circuit 84 = .ok (.iaload, 1) := by decide +kernel
theorem dX12_circuit_85 : decode cX12_circuit 85 = .ok (.sipush 2000, 3) := by decide +kernel
theorem dX12_circuit_88 : decode cX12_circuit 88 = .ok (.isub, 1) := by decide +kernel
theorem dX12_circuit_89 : decode cX12_circuit 89 = .ok (.iastore, 1) := by decide +kernel
theorem dX12_circuit_90 : decode cX12_circuit 90 = .ok (.aload_n 0, 1) := by decide +kernel
theorem dX12_circuit_91 : decode cX12_circuit 91 = .ok (.getfield 24, 3) := by decide +kernel
theorem dX12_circuit_94 : decode cX12_circuit 94 = .ok (.iload_n 1, 1) := by decide +kernel
theorem dX12_circuit_95 : decode cX12_circuit 95 = .ok (.aload_n 0, 1) := by decide +kernel
theorem dX12_circuit_96 : decode cX12_circuit 96 = .ok (.getfield 33, 3) := by decide +kernel
theorem dX12_circuit_99 : decode cX12_circuit 99 = .ok (.iload_n 1, 1) := by decide +kernel
theorem dX12_circuit_100 : decode cX12_circuit 100 = .ok (.iaload, 1) := by decide +kernel
theorem dX12_circuit_101 : decode cX12_circuit 101 = .ok (.sipush 2000, 3) := by decide +kernel
theorem dX12_circuit_104 : decode cX12_circuit 104 = .ok (.isub, 1) := by decide +kernel
theorem dX12_circuit_105 : decode cX12_circuit 105 = .ok (.iastore, 1) := by decide +kernel
theorem dX12_circuit_106 : decode cX12_circuit 106 = .ok (.iinc 1 1, 3) := by decide +kernel
theorem dX12_circuit_109 : decode cX12_circuit 109 = .ok (.goto (-53), 3) := by decide +kernel
theorem dX12_circuit_112 : decode cX12_circuit 112 = .ok (.iconst 0, 1) := by decide +kernel
theorem dX12_circuit_113 : decode cX12_circuit 113 = .ok (.istore_n 1, 1) := by decide +kernel
theorem dX12_circuit_114 : decode cX12_circuit 114 = .ok (.iload_n 1, 1) := by decide +kernel
theorem dX12_circuit_115 : decode cX12_circuit 115 = .ok (.sipush 1000, 3) := by decide +kernel
theorem dX12_circuit_118 : decode cX12_circuit 118 = .ok (.if_icmp .ge 25, 3) := by decide +kernel
theorem dX12_circuit_121 : decode cX12_circuit 121 = .ok (.aload_n 0, 1) := by decide +kernel
theorem dX12_circuit_122 : decode cX12_circuit 122 = .ok (.getfield 36, 3) := by decide +kernel
theorem dX12_circuit_125 : decode cX12_circuit 125 = .ok (.iload_n 1, 1) := by decide +kernel
theorem dX12_circuit_126 : decode cX12_circuit 126 = .ok (.aload_n 0, 1) := by decide +kernel
theorem dX12_circuit_127 : decode cX12_circuit 127 = .ok (.getfield 36, 3) := by decide +kernel
theorem dX12_circuit_130 : decode cX12_circuit 130 = .ok (.sipush 2000, 3) := by decide +kernel
theorem dX12_circuit_133 : decode cX12_circuit 133 = .ok (.iload_n 1, 1) := by decide +kernel
theorem dX12_circuit_134 : decode cX12_circuit 134 = .ok (.iadd, 1) := by decide +kernel
theorem dX12_circuit_135 : decode cX12_circuit 135 = .ok (.iaload, 1) := by decide +kernel
theorem dX12_circuit_136 : decode cX12_circuit 136 = .ok (.iastore, 1) := by decide +kernel
theorem dX12_circuit_137 : decode cX12_circuit 137 = .ok (.iinc 1 1, 3) := by decide +kernel
theorem dX12_circuit_140 : decode cX12_circuit 140 = .ok (.goto (-26), 3) := by decide +kernel
theorem dX12_circuit_143 : decode cX12_circuit 143 = .ok (.aload_n 0, 1) := by decide +kernel
theorem dX12_circuit_144 : decode cX12_circuit 144 = .ok (.invokevirtual 191, 3) := by decide +kernel
theorem dX12_circuit_147 : decode cX12_circuit 147 = .ok (.aload_n 0, 1) := by decide +kernel
theorem dX12_circuit_148 : decode cX12_circuit 148 = .ok (.iconst 0, 1) := by decide +kernel
theorem dX12_circuit_149 : decode cX12_circuit 149 = .ok (.putfield 194, 3) := by decide +kernel
theorem dX12_circuit_152 : decode cX12_circuit 152 = .ok (.aload_n 0, 1) := by decide +kernel
theorem dX12_circuit_153 : decode cX12_circuit 153 = .ok (.iconst 0, 1) := by decide +kernel
theorem dX12_circuit_154 : decode cX12_circuit 154 = .ok (.putfield 197, 3) := by decide +kernel
theorem dX12_circuit_157 : decode cX12_circuit 157 = .ok (.iconst 0, 1) := by decide +kernel
theorem dX12_circuit_158 : decode cX12_circuit 158 = .ok (.ireturn, 1) := by decide +kernel
def F_X12_circuit_b143 (N : Nat) (h : PH) : Option (Int32 × PH) :=
  bV (F_X12_begins  h) fun h2 =>
  hb (hs h2 103 37 (0 : Int32)) fun h3 =>
  hb (hs h3 103 46 (0 : Int32)) fun h4 =>
  some ((0 : Int32), h4)
set_option maxRecDepth 20000 in
set_option maxHeartbeats 4000000 in
theorem T_X12_circuit_b143 {X : CT} (C : CX X 154 cX12_circuit 2 RX12 (some .int) 5 110) {r0 : Int32} {h0 : PH} {N : Nat} : ∀ (h : PH), F_X12_circuit_b143 N  h = some (r0, h0) → V X (QI X r0 h0) h 143 [some (.ref 103), none] [] := by
  intro  h hyp
  unfold F_X12_circuit_b143 at hyp
  refine V_aload_n (pc := 143) C dX12_circuit_143 rfl ?_
  obtain ⟨h2, eh2, hyp⟩ := bV_n hyp
  refine V_callV (pc := 144) C dX12_circuit_144 lm_X12_191 mk_X12_begins ok_103 rfl (M_X12_begins _ eh2) rfl pd_X12_begins (by decide) (by decide) (by decide) (As := []) (rest := []) rfl (Nat.le_of_ble_eq_true rfl) ?_
  refine V_aload_n (pc := 147) C dX12_circuit_147 rfl ?_
  refine V_iconst (pc := 148) C dX12_circuit_148 (v := 0) (by decide) ?_
  obtain ⟨h3, eh3, hyp⟩ := hb_n hyp
  refine V_putI (pc := 149) C dX12_circuit_149 lf_X12_194 fk_103_37 rfl rfl eh3 ?_
  refine V_aload_n (pc := 152) C dX12_circuit_152 rfl ?_
  refine V_iconst (pc := 153) C dX12_circuit_153 (v := 0) (by decide) ?_
  obtain ⟨h4, eh4, hyp⟩ := hb_n hyp
  refine V_putI (pc := 154) C dX12_circuit_154 lf_X12_197 fk_103_46 rfl rfl eh4 ?_
  refine V_iconst (pc := 157) C dX12_circuit_157 (v := 0) (by decide) ?_
  cases hyp
  exact V_iret C dX12_circuit_158
def F_X12_circuit_b114 (N : Nat) : Nat → Int32 → PH → Option (Int32 × PH)
  | 0, _, _ => none
  | n + 1, x1, h =>
    if (1000 : Int32) ≤ x1 then
      F_X12_circuit_b143 N  h
    else
      if inb ((2000 : Int32) + x1) 4000 = true then
      if inb x1 4000 = true then
      hb (hs h 111 x1.toNatClampNeg (h.1 111 ((2000 : Int32) + x1).toNatClampNeg)) fun h4 =>
      ib (x1 + (1 : Int32)) fun v5 =>
      F_X12_circuit_b114 N n v5 h4
      else none
      else none
set_option maxRecDepth 20000 in
set_option maxHeartbeats 4000000 in
theorem T_X12_circuit_b114 {X : CT} (C : CX X 154 cX12_circuit 2 RX12 (some .int) 5 110) {r0 : Int32} {h0 : PH} {N : Nat} : ∀ (n : Nat) (x1 : Int32) (h : PH), F_X12_circuit_b114 N n x1 h = some (r0, h0) → V X (QI X r0 h0) h 114 [some (.ref 103), some (.int x1)] [] := by
  intro n
  induction n with
  | zero =>
    intro x1 h hyp
    cases hyp
  | succ n ih =>
    intro x1 h hyp
    unfold F_X12_circuit_b114 at hyp
    refine V_iload_n (pc := 114) C dX12_circuit_114 rfl ?_
    refine V_sipush (pc := 115) C dX12_circuit_115 (v := 1000) (by decide) ?_
    refine V_icmp_ge (pc := 118) C dX12_circuit_118 (tgt := 143) (by decide) (fun q1 => ?_) (fun q1 => ?_)
    · replace hyp := (if_pos q1).symm.trans hyp
      refine V_weak (lv' := [some (.ref 103), none]) (lvle_s (lvle_n lvle_0)) ?_
      exact (T_X12_circuit_b143 C) h hyp
    · replace hyp := (if_neg q1).symm.trans hyp
      refine V_aload_n (pc := 121) C dX12_circuit_121 rfl ?_
      refine V_getR (pc := 122) C dX12_circuit_122 lf_X12_36 fk_103_17 ?_
      refine V_iload_n (pc := 125) C dX12_circuit_125 rfl ?_
      refine V_aload_n (pc := 126) C dX12_circuit_126 rfl ?_
      refine V_getR (pc := 127) C dX12_circuit_127 lf_X12_36 fk_103_17 ?_
      refine V_sipush (pc := 130) C dX12_circuit_130 (v := 2000) (by decide) ?_
      refine V_iload_n (pc := 133) C dX12_circuit_133 rfl ?_
      refine V_iadd (pc := 134) C dX12_circuit_134 ?_
      obtain ⟨g2, hyp⟩ := gd_n hyp
      refine V_iald (pc := 135) C dX12_circuit_135 ak_111 g2 ?_
      obtain ⟨g3, hyp⟩ := gd_n hyp
      obtain ⟨h4, eh4, hyp⟩ := hb_n hyp
      refine V_iast (pc := 136) C dX12_circuit_136 ak_111 g3 eh4 ?_
      obtain ⟨v5, ev5, hyp⟩ := ib_n hyp
      refine V_iinc (pc := 137) C dX12_circuit_137 (v := v5) rfl (by rw [ev5]; rfl) (by decide) rfl ?_
      refine V_goto (pc := 140) C dX12_circuit_140 (tgt := 114) (by decide) ?_
      refine V_weak (lv' := [some (.ref 103), some (.int v5)]) (lvle_s (lvle_s lvle_0)) ?_
      exact ih v5 h4 hyp
def F_X12_circuit_b112 (N : Nat) (h : PH) : Option (Int32 × PH) :=
  F_X12_circuit_b114 N N (0 : Int32) h
set_option maxRecDepth 20000 in
set_option maxHeartbeats 4000000 in
theorem T_X12_circuit_b112 {X : CT} (C : CX X 154 cX12_circuit 2 RX12 (some .int) 5 110) {r0 : Int32} {h0 : PH} {N : Nat} : ∀ (h : PH), F_X12_circuit_b112 N  h = some (r0, h0) → V X (QI X r0 h0) h 112 [some (.ref 103), none] [] := by
  intro  h hyp
  unfold F_X12_circuit_b112 at hyp
  refine V_iconst (pc := 112) C dX12_circuit_112 (v := 0) (by decide) ?_
  refine V_istore_n (pc := 113) C dX12_circuit_113 (by decide) rfl ?_
  refine V_weak (lv' := [some (.ref 103), some (.int (0 : Int32))]) (lvle_s (lvle_s lvle_0)) ?_
  exact (T_X12_circuit_b114 C) N (0 : Int32) h hyp
def F_X12_circuit_b56 (N : Nat) : Nat → Int32 → PH → Option (Int32 × PH)
  | 0, _, _ => none
  | n + 1, x1, h =>
    if (25 : Int32) ≤ x1 then
      F_X12_circuit_b112 N  h
    else
      if inb x1 26 = true then
      hb (hs h 105 x1.toNatClampNeg (vp_nar .boolean (h.1 108 x1.toNatClampNeg))) fun h3 =>
      hb (hs h3 106 x1.toNatClampNeg ((h3.1 109 x1.toNatClampNeg) - (2000 : Int32))) fun h4 =>
      hb (hs h4 107 x1.toNatClampNeg ((h4.1 110 x1.toNatClampNeg) - (2000 : Int32))) fun h5 =>
      ib (x1 + (1 : Int32)) fun v6 =>
      F_X12_circuit_b56 N n v6 h5
      else none
set_option maxRecDepth 20000 in
set_option maxHeartbeats 4000000 in
theorem T_X12_circuit_b56 {X : CT} (C : CX X 154 cX12_circuit 2 RX12 (some .int) 5 110) {r0 : Int32} {h0 : PH} {N : Nat} : ∀ (n : Nat) (x1 : Int32) (h : PH), F_X12_circuit_b56 N n x1 h = some (r0, h0) → V X (QI X r0 h0) h 56 [some (.ref 103), some (.int x1)] [] := by
  intro n
  induction n with
  | zero =>
    intro x1 h hyp
    cases hyp
  | succ n ih =>
    intro x1 h hyp
    unfold F_X12_circuit_b56 at hyp
    refine V_iload_n (pc := 56) C dX12_circuit_56 rfl ?_
    refine V_bipush (pc := 57) C dX12_circuit_57 (v := 25) (by decide) ?_
    refine V_icmp_ge (pc := 59) C dX12_circuit_59 (tgt := 112) (by decide) (fun q1 => ?_) (fun q1 => ?_)
    · replace hyp := (if_pos q1).symm.trans hyp
      refine V_weak (lv' := [some (.ref 103), none]) (lvle_s (lvle_n lvle_0)) ?_
      exact (T_X12_circuit_b112 C) h hyp
    · replace hyp := (if_neg q1).symm.trans hyp
      refine V_aload_n (pc := 62) C dX12_circuit_62 rfl ?_
      refine V_getR (pc := 63) C dX12_circuit_63 lf_X12_17 fk_103_11 ?_
      refine V_iload_n (pc := 66) C dX12_circuit_66 rfl ?_
      refine V_aload_n (pc := 67) C dX12_circuit_67 rfl ?_
      refine V_getR (pc := 68) C dX12_circuit_68 lf_X12_27 fk_103_14 ?_
      refine V_iload_n (pc := 71) C dX12_circuit_71 rfl ?_
      obtain ⟨g2, hyp⟩ := gd_n hyp
      refine V_zald (pc := 72) C dX12_circuit_72 ak_108 g2 ?_
      obtain ⟨h3, eh3, hyp⟩ := hb_n hyp
      refine V_zast (pc := 73) C dX12_circuit_73 ak_105 g2 eh3 ?_
      refine V_aload_n (pc := 74) C dX12_circuit_74 rfl ?_
      refine V_getR (pc := 75) C dX12_circuit_75 lf_X12_21 fk_103_12 ?_
      refine V_iload_n (pc := 78) C dX12_circuit_78 rfl ?_
      refine V_aload_n (pc := 79) C dX12_circuit_79 rfl ?_
      refine V_getR (pc := 80) C dX12_circuit_80 lf_X12_30 fk_103_15 ?_
      refine V_iload_n (pc := 83) C dX12_circuit_83 rfl ?_
      refine V_iald (pc := 84) C dX12_circuit_84 ak_109 g2 ?_
      refine V_sipush (pc := 85) C dX12_circuit_85 (v := 2000) (by decide) ?_
      refine V_isub (pc := 88) C dX12_circuit_88 ?_
      obtain ⟨h4, eh4, hyp⟩ := hb_n hyp
      refine V_iast (pc := 89) C dX12_circuit_89 ak_106 g2 eh4 ?_
      refine V_aload_n (pc := 90) C dX12_circuit_90 rfl ?_
      refine V_getR (pc := 91) C dX12_circuit_91 lf_X12_24 fk_103_13 ?_
      refine V_iload_n (pc := 94) C dX12_circuit_94 rfl ?_
      refine V_aload_n (pc := 95) C dX12_circuit_95 rfl ?_
      refine V_getR (pc := 96) C dX12_circuit_96 lf_X12_33 fk_103_16 ?_
      refine V_iload_n (pc := 99) C dX12_circuit_99 rfl ?_
      refine V_iald (pc := 100) C dX12_circuit_100 ak_110 g2 ?_
      refine V_sipush (pc := 101) C dX12_circuit_101 (v := 2000) (by decide) ?_
      refine V_isub (pc := 104) C dX12_circuit_104 ?_
      obtain ⟨h5, eh5, hyp⟩ := hb_n hyp
      refine V_iast (pc := 105) C dX12_circuit_105 ak_107 g2 eh5 ?_
      obtain ⟨v6, ev6, hyp⟩ := ib_n hyp
      refine V_iinc (pc := 106) C dX12_circuit_106 (v := v6) rfl (by rw [ev6]; rfl) (by decide) rfl ?_
      refine V_goto (pc := 109) C dX12_circuit_109 (tgt := 56) (by decide) ?_
      refine V_weak (lv' := [some (.ref 103), some (.int v6)]) (lvle_s (lvle_s lvle_0)) ?_
      exact ih v6 h5 hyp
def F_X12_circuit_b38 (N : Nat) (h : PH) : Option (Int32 × PH) :=
  bV (F_X12_takesTape N  h) fun h2 =>
  bI (F_X12_readsCircuit N  h2) fun r3 h4 =>
  if r3 = 0 then
    some (h4.1 103 10, h4)
  else
    F_X12_circuit_b56 N N (0 : Int32) h4
set_option maxRecDepth 20000 in
set_option maxHeartbeats 4000000 in
theorem T_X12_circuit_b38 {X : CT} (C : CX X 154 cX12_circuit 2 RX12 (some .int) 5 110) {r0 : Int32} {h0 : PH} {N : Nat} : ∀ (h : PH), F_X12_circuit_b38 N  h = some (r0, h0) → V X (QI X r0 h0) h 38 [some (.ref 103), none] [] := by
  intro  h hyp
  unfold F_X12_circuit_b38 at hyp
  refine V_aload_n (pc := 38) C dX12_circuit_38 rfl ?_
  obtain ⟨h2, eh2, hyp⟩ := bV_n hyp
  refine V_callV (pc := 39) C dX12_circuit_39 lm_X12_333 mk_X12_takesTape ok_103 rfl (M_X12_takesTape _ eh2) rfl pd_X12_takesTape (by decide) (by decide) (by decide) (As := []) (rest := []) rfl (Nat.le_of_ble_eq_true rfl) ?_
  refine V_aload_n (pc := 42) C dX12_circuit_42 rfl ?_
  obtain ⟨r3, h4, eh4, hyp⟩ := bI_n hyp
  refine V_callI (pc := 43) C dX12_circuit_43 lm_X12_336 mk_X12_readsCircuit ok_103 rfl (M_X12_readsCircuit _ eh4) rfl pd_X12_readsCircuit (by decide) (by decide) (by decide) (As := []) (rest := []) rfl (Nat.le_of_ble_eq_true rfl) ?_
  refine V_if_ne (pc := 46) C dX12_circuit_46 (tgt := 54) (by decide) (fun q5 => ?_) (fun q5 => ?_)
  · replace hyp := (if_neg q5).symm.trans hyp
    refine V_iconst (pc := 54) C dX12_circuit_54 (v := 0) (by decide) ?_
    refine V_istore_n (pc := 55) C dX12_circuit_55 (by decide) rfl ?_
    refine V_weak (lv' := [some (.ref 103), some (.int (0 : Int32))]) (lvle_s (lvle_s lvle_0)) ?_
    exact (T_X12_circuit_b56 C) N (0 : Int32) h4 hyp
  · replace hyp := (if_pos q5).symm.trans hyp
    refine V_aload_n (pc := 49) C dX12_circuit_49 rfl ?_
    refine V_getI (pc := 50) C dX12_circuit_50 lf_X12_244 fk_103_10 ?_
    cases hyp
    exact V_iret C dX12_circuit_53
def F_X12_circuit_b19 (N : Nat) : Nat → Int32 → PH → Option (Int32 × PH)
  | 0, _, _ => none
  | n + 1, x1, h =>
    if (25 : Int32) ≤ x1 then
      F_X12_circuit_b38 N  h
    else
      if inb x1 26 = true then
      hb (hs h 108 x1.toNatClampNeg (vp_nar .boolean (0 : Int32))) fun h3 =>
      ib (x1 + (1 : Int32)) fun v4 =>
      F_X12_circuit_b19 N n v4 h3
      else none
set_option maxRecDepth 20000 in
set_option maxHeartbeats 4000000 in
theorem T_X12_circuit_b19 {X : CT} (C : CX X 154 cX12_circuit 2 RX12 (some .int) 5 110) {r0 : Int32} {h0 : PH} {N : Nat} : ∀ (n : Nat) (x1 : Int32) (h : PH), F_X12_circuit_b19 N n x1 h = some (r0, h0) → V X (QI X r0 h0) h 19 [some (.ref 103), some (.int x1)] [] := by
  intro n
  induction n with
  | zero =>
    intro x1 h hyp
    cases hyp
  | succ n ih =>
    intro x1 h hyp
    unfold F_X12_circuit_b19 at hyp
    refine V_iload_n (pc := 19) C dX12_circuit_19 rfl ?_
    refine V_bipush (pc := 20) C dX12_circuit_20 (v := 25) (by decide) ?_
    refine V_icmp_ge (pc := 22) C dX12_circuit_22 (tgt := 38) (by decide) (fun q1 => ?_) (fun q1 => ?_)
    · replace hyp := (if_pos q1).symm.trans hyp
      refine V_weak (lv' := [some (.ref 103), none]) (lvle_s (lvle_n lvle_0)) ?_
      exact (T_X12_circuit_b38 C) h hyp
    · replace hyp := (if_neg q1).symm.trans hyp
      refine V_aload_n (pc := 25) C dX12_circuit_25 rfl ?_
      refine V_getR (pc := 26) C dX12_circuit_26 lf_X12_27 fk_103_14 ?_
      refine V_iload_n (pc := 29) C dX12_circuit_29 rfl ?_
      refine V_iconst (pc := 30) C dX12_circuit_30 (v := 0) (by decide) ?_
      obtain ⟨g2, hyp⟩ := gd_n hyp
      obtain ⟨h3, eh3, hyp⟩ := hb_n hyp
      refine V_zast (pc := 31) C dX12_circuit_31 ak_108 g2 eh3 ?_
      obtain ⟨v4, ev4, hyp⟩ := ib_n hyp
      refine V_iinc (pc := 32) C dX12_circuit_32 (v := v4) rfl (by rw [ev4]; rfl) (by decide) rfl ?_
      refine V_goto (pc := 35) C dX12_circuit_35 (tgt := 19) (by decide) ?_
      refine V_weak (lv' := [some (.ref 103), some (.int v4)]) (lvle_s (lvle_s lvle_0)) ?_
      exact ih v4 h3 hyp
def F_X12_circuit (N : Nat) (h : PH) : Option (Int32 × PH) :=
  hb (hs h 103 0 (0 : Int32)) fun h1 =>
  hb (hs h1 103 19 (0 : Int32)) fun h2 =>
  hb (hs h2 103 18 (2000 : Int32)) fun h3 =>
  F_X12_circuit_b19 N N (0 : Int32) h3
set_option maxRecDepth 20000 in
set_option maxHeartbeats 4000000 in
theorem M_X12_circuit (E : EV) {N : Nat} {r : Int32} {h h2 : PH} (hyp : F_X12_circuit N  h = some (r, h2)) : MI E 154 yX12_circuit cX12_circuit 2 (some .int) 5 110 [.ref 103] h r h2 := by
  refine MI.of 1 (by decide) rfl (fun X e1 C => ?_)
  subst e1
  replace C : CX X 154 cX12_circuit 2 RX12 (some .int) 5 110 := C
  show V X _ h 0 [some (.ref 103), none] []
  unfold F_X12_circuit at hyp
  refine V_aload_n (pc := 0) C dX12_circuit_0 rfl ?_
  refine V_iconst (pc := 1) C dX12_circuit_1 (v := 0) (by decide) ?_
  obtain ⟨h1, eh1, hyp⟩ := hb_n hyp
  refine V_putI (pc := 2) C dX12_circuit_2 lf_X12_180 fk_103_0 rfl rfl eh1 ?_
  refine V_aload_n (pc := 5) C dX12_circuit_5 rfl ?_
  refine V_iconst (pc := 6) C dX12_circuit_6 (v := 0) (by decide) ?_
  obtain ⟨h2, eh2, hyp⟩ := hb_n hyp
  refine V_putI (pc := 7) C dX12_circuit_7 lf_X12_250 fk_103_19 rfl rfl eh2 ?_
  refine V_aload_n (pc := 10) C dX12_circuit_10 rfl ?_
  refine V_sipush (pc := 11) C dX12_circuit_11 (v := 2000) (by decide) ?_
  obtain ⟨h3, eh3, hyp⟩ := hb_n hyp
  refine V_putI (pc := 14) C dX12_circuit_14 lf_X12_247 fk_103_18 rfl rfl eh3 ?_
  refine V_iconst (pc := 17) C dX12_circuit_17 (v := 0) (by decide) ?_
  refine V_istore_n (pc := 18) C dX12_circuit_18 (by decide) rfl ?_
  refine V_weak (lv' := [some (.ref 103), some (.int (0 : Int32))]) (lvle_s (lvle_s lvle_0)) ?_
  exact (T_X12_circuit_b19 C) N (0 : Int32) h3 hyp
