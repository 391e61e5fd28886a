theorem dX5_expression_0 : decode cX5_expression 0 = .ok (.iload_n 1, 1) := by decide +kernel
theorem dX5_expression_1 : decode cX5_expression 1 = .ok (.iconst 3, 1) := by decide +kernel
theorem dX5_expression_2 : decode cX5_expression 2 = .ok (.if_icmp .le 9, 3) := by decide +kernel
theorem dX5_expression_5 : decode cX5_expression 5 = .ok (.aload_n 0, 1) := by decide +kernel
theorem dX5_expression_6 : decode cX5_expression 6 = .ok (.iload_n 2, 1) := by decide +kernel
theorem dX5_expression_7 : decode cX5_expression 7 = .ok (.invokevirtual 106, 3) := by decide +kernel
theorem dX5_expression_10 : decode cX5_expression 10 = .ok (.return_, 1) := by decide +kernel
theorem dX5_expression_11 : decode cX5_expression 11 = .ok (.aload_n 0, 1) := by decide +kernel
theorem dX5_expression_12 : decode cX5_expression 12 = .ok (.iload_n 1, 1) := by decide +kernel
theorem dX5_expression_13 : decode cX5_expression 13 = .ok (.iconst 1, 1) := by decide +kernel
theorem dX5_expression_14 : decode cX5_expression 14 = .ok (.iadd, 1) := by decide +kernel
theorem dX5_expression_15 : decode cX5_expression 15 = .ok (.iload_n 2, 1) := by decide +kernel
theorem dX5_expression_16 : decode cX5_expression 16 = .ok (.invokevirtual 45, 3) := by decide +kernel
theorem dX5_expression_19 : decode cX5_expression 19 = .ok (.iconst 0, 1) := by decide +kernel
theorem dX5_expression_20 : decode cX5_expression 20 = .ok (.istore_n 3, 1) := by decide +kernel
theorem dX5_expression_21 : decode cX5_expression 21 = .ok (.iload_n 3, 1) := by decide +kernel
theorem dX5_expression_22 : decode cX5_expression 22 = .ok (.sipush 1000, 3) := by decide +kernel
theorem dX5_expression_25 : decode cX5_expression 25 = .ok (.if_icmp .ge 61, 3) := by decide +kernel
theorem dX5_expression_28 : decode cX5_expression 28 = .ok (.aload_n 0, 1) := by decide +kernel
theorem dX5_expression_29 : decode cX5_expression 29 = .ok (.getfield 31, 3) := by decide +kernel
theorem dX5_expression_32 : decode cX5_expression 32 = .ok (.ifCond .ne 54, 3) := by decide +kernel
theorem dX5_expression_35 : decode cX5_expression 35 = .ok (.aload_n 0, 1) := by decide +kernel
theorem dX5_expression_36 : decode cX5_expression 36 = .ok (.getfield 35, 3) := by decide +kernel
theorem dX5_expression_39 : decode cX5_expression 39 = .ok (.invokestatic 109, 3) := by decide +kernel
theorem dX5_expression_42 : decode cX5_expression 42 = .ok (.iload_n 1, 1) := by decide +kernel
theorem dX5_expression_43 : decode cX5_expression 43 = .ok (.if_icmp .ne 43, 3) := by decide +kernel
theorem dX5_expression_46 : decode cX5_expression 46 = .ok (.aload_n 0, 1) := by decide +kernel
theorem dX5_expression_47 : decode cX5_expression 47 = .ok (.getfield 35, 3) := by decide +kernel
theorem dX5_expression_50 : decode cX5_expression 50 = .ok (.istore 4, 2) := by decide +kernel
theorem dX5_expression_52 : decode cX5_expression 52 = .ok (.aload_n 0, 1) := by decide +kernel
theorem dX5_expression_53 : decode cX5_expression 53 = .ok (.invokevirtual 71, 3) := by decide +kernel
theorem dX5_expression_56 : decode cX5_expression 56 = .ok (.aload_n 0, 1) := by decide +kernel
theorem dX5_expression_57 : decode cX5_expression 57 = .ok (.iload_n 1, 1) := by decide +kernel
theorem dX5_expression_58 : decode cX5_expression 58 = .ok (.iconst 1, 1) := by decide +kernel
theorem dX5_expression_59 : decode cX5_expression 59 = .ok (.iadd, 1) := by decide +kernel
theorem dX5_expression_60 : decode cX5_expression 60 = .ok (.iload_n 2, 1) := by decide +kernel
theorem dX5_expression_61 : decode cX5_expression 61 = .ok (.invokevirtual 45, 3) := by decide +kernel
theorem dX5_expression_64 : decode cX5_expression 64 = .ok (.aload_n 0, 1) := by decide +kernel
theorem dX5_expression_65 : decode cX5_expression 65 = .ok (.getfield 12, 3) := by decide +kernel
theorem dX5_expression_68 : decode cX5_expression 68 = .ok (.iload 4, 2) := by decide +kernel
theorem dX5_expression_70 : decode cX5_expression 70 = .ok (.iconst 0, 1) := by decide +kernel
theorem dX5_expression_71 : decode cX5_expression 71 = .ok (.invokevirtual 112, 3) := by decide +kernel
theorem dX5_expression_74 : decode cX5_expression 74 = .ok (.iload_n 1, 1) := by decide +kernel
theorem dX5_expression_75 : decode cX5_expression 75 = .ok (.iconst 1, 1) := by decide +kernel
theorem dX5_expression_76 : decode cX5_expression 76 = .ok (.if_icmp .ne 4, 3) := by decide +kernel
theorem dX5_expression_79 : decode cX5_expression 79 = .ok (.return_, 1) := by decide +kernel
theorem dX5_expression_80 : decode cX5_expression 80 = .ok (.iinc 3 1, 3) := by decide +kernel
theorem dX5_expression_83 : decode cX5_expression 83 = .ok (.goto (-62), 3) := by decide +kernel
theorem dX5_expression_86 : decode cX5_expression 86 = .ok (.return_, 1) := by decide +kernel
def F_X5_expression_b21 (N : Nat) (c_X5_expression : Int32 → Int32 → PH → Option PH) (c_X5_part : Int32 → PH → Option PH) : Nat → Int32 → Int32 → Int32 → PH → Option PH
  | 0, _, _, _, _ => none
  | n + 1, x1, x2, x3, h =>
    if (1000 : Int32) ≤ x3 then
      some h
    else
      if (h.1 3 5) = 0 then
        bI (F_X5_levelOf (h.1 3 3) h) fun r3 h4 =>
        if r3 = x1 then
          ib (h4.1 3 3) fun v6 =>
          bV (F_X5_advance  h4) fun h8 =>
          bV (c_X5_expression (x1 + (1 : Int32)) x2 h8) fun h10 =>
          bV (F_X2_add 4 v6 (0 : Int32) h10) fun h12 =>
          if x1 = (1 : Int32) then
            some h12
          else
            ib (x3 + (1 : Int32)) fun v14 =>
            F_X5_expression_b21 N c_X5_expression c_X5_part n x1 x2 v14 h12
        else
          some h4
      else
        some h
set_option maxRecDepth 20000 in
set_option maxHeartbeats 4000000 in
theorem T_X5_expression_b21 {X : CT} {gf gl : Nat} (C : CX X 103 cX5_expression 5 RX5 none (gf + 1 + 3) (gl + 40 + 64)) {h0 : PH} {N : Nat} {c_X5_expression : Int32 → Int32 → PH → Option PH} {c_X5_part : Int32 → PH → Option PH} (hc_X5_expression : ∀ (a1 : Int32) (a2 : Int32) (h : PH) (h2 : PH), c_X5_expression a1 a2 h = some h2 → MV (xE X) 103 yX5_expression cX5_expression 5 none gf gl [.ref 3, .int a1, .int a2] h h2) (hc_X5_part : ∀ (a1 : Int32) (h : PH) (h2 : PH), c_X5_part a1 h = some h2 → MV (xE X) 103 yX5_part cX5_part 3 none gf gl [.ref 3, .int a1] h h2) : ∀ (n : Nat) (x1 : Int32) (x2 : Int32) (x3 : Int32) (h : PH), F_X5_expression_b21 N c_X5_expression c_X5_part n x1 x2 x3 h = some h0 → V X (QV X h0) h 21 [some (.ref 3), some (.int x1), some (.int x2), some (.int x3), none] [] := by
  intro n
  induction n with
  | zero =>
    intro x1 x2 x3 h hyp
    cases hyp
  | succ n ih =>
    intro x1 x2 x3 h hyp
    unfold F_X5_expression_b21 at hyp
    refine V_iload_n (pc := 21) C dX5_expression_21 rfl ?_
    refine V_sipush (pc := 22) C dX5_expression_22 (v := 1000) (by decide) ?_
    refine V_icmp_ge (pc := 25) C dX5_expression_25 (tgt := 86) (by decide) (fun q1 => ?_) (fun q1 => ?_)
    · replace hyp := (if_pos q1).symm.trans hyp
      cases hyp
      exact V_vret C dX5_expression_86
    · replace hyp := (if_neg q1).symm.trans hyp
      refine V_aload_n (pc := 28) C dX5_expression_28 rfl ?_
      refine V_getI (pc := 29) C dX5_expression_29 lf_X5_31 fk_3_5 ?_
      refine V_if_ne (pc := 32) C dX5_expression_32 (tgt := 86) (by decide) (fun q2 => ?_) (fun q2 => ?_)
      · replace hyp := (if_neg q2).symm.trans hyp
        cases hyp
        exact V_vret C dX5_expression_86
      · replace hyp := (if_pos q2).symm.trans hyp
        refine V_aload_n (pc := 35) C dX5_expression_35 rfl ?_
        refine V_getI (pc := 36) C dX5_expression_36 lf_X5_35 fk_3_3 ?_
        obtain ⟨r3, h4, eh4, hyp⟩ := bI_n hyp
        refine V_statI (pc := 39) C dX5_expression_39 lm_X5_109 ms_X5_levelOf (M_X5_levelOf _ eh4) rfl pd_X5_levelOf (by decide) (by omega) (by omega) (As := [.int (h.1 3 3)]) (rest := []) rfl (Nat.le_of_ble_eq_true rfl) ?_
        refine V_iload_n (pc := 42) C dX5_expression_42 rfl ?_
        refine V_icmp_ne (pc := 43) C dX5_expression_43 (tgt := 86) (by decide) (fun q5 => ?_) (fun q5 => ?_)
        · replace hyp := (if_neg q5).symm.trans hyp
          cases hyp
          exact V_vret C dX5_expression_86
        · replace hyp := (if_pos q5).symm.trans hyp
          refine V_aload_n (pc := 46) C dX5_expression_46 rfl ?_
          refine V_getI (pc := 47) C dX5_expression_47 lf_X5_35 fk_3_3 ?_
          obtain ⟨v6, ev6, hyp⟩ := ib_n hyp
          refine V_topI ev6 ?_
          refine V_istore (pc := 50) C dX5_expression_50 (by decide) rfl ?_
          refine V_aload_n (pc := 52) C dX5_expression_52 rfl ?_
          obtain ⟨h8, eh8, hyp⟩ := bV_n hyp
          refine V_callV (pc := 53) C dX5_expression_53 lm_X5_71 mk_X5_advance ok_3 rfl (M_X5_advance _ eh8) rfl pd_X5_advance (by decide) (by omega) (by omega) (As := []) (rest := []) rfl (Nat.le_of_ble_eq_true rfl) ?_
          refine V_aload_n (pc := 56) C dX5_expression_56 rfl ?_
          refine V_iload_n (pc := 57) C dX5_expression_57 rfl ?_
          refine V_iconst (pc := 58) C dX5_expression_58 (v := 1) (by decide) ?_
          refine V_iadd (pc := 59) C dX5_expression_59 ?_
          refine V_iload_n (pc := 60) C dX5_expression_60 rfl ?_
          obtain ⟨h10, eh10, hyp⟩ := bV_n hyp
          refine V_callV (pc := 61) C dX5_expression_61 lm_X5_45 mk_X5_expression ok_3 rfl (hc_X5_expression _ _ _ _ eh10) rfl pd_X5_expression (by decide) (by omega) (by omega) (As := [.int (x1 + (1 : Int32)), .int x2]) (rest := []) rfl (Nat.le_of_ble_eq_true rfl) ?_
          refine V_aload_n (pc := 64) C dX5_expression_64 rfl ?_
          refine V_getR (pc := 65) C dX5_expression_65 lf_X5_12 fk_3_0 ?_
          refine V_iload (pc := 68) C dX5_expression_68 rfl ?_
          refine V_iconst (pc := 70) C dX5_expression_70 (v := 0) (by decide) ?_
          obtain ⟨h12, eh12, hyp⟩ := bV_n hyp
          refine V_callV (pc := 71) C dX5_expression_71 lm_X5_112 mk_X2_add ok_4 rfl (M_X2_add _ isC_4 eh12) rfl pd_X2_add (by decide) (by omega) (by omega) (As := [.int v6, .int (0 : Int32)]) (rest := []) rfl (Nat.le_of_ble_eq_true rfl) ?_
          refine V_iload_n (pc := 74) C dX5_expression_74 rfl ?_
          refine V_iconst (pc := 75) C dX5_expression_75 (v := 1) (by decide) ?_
          refine V_icmp_ne (pc := 76) C dX5_expression_76 (tgt := 80) (by decide) (fun q13 => ?_) (fun q13 => ?_)
          · replace hyp := (if_neg q13).symm.trans hyp
            obtain ⟨v14, ev14, hyp⟩ := ib_n hyp
            refine V_iinc (pc := 80) C dX5_expression_80 (v := v14) rfl (by rw [ev14]; rfl) (by decide) rfl ?_
            refine V_goto (pc := 83) C dX5_expression_83 (tgt := 21) (by decide) ?_
            refine V_weak (lv' := [some (.ref 3), some (.int x1), some (.int x2), some (.int v14), none]) (lvle_s (lvle_s (lvle_s (lvle_s (lvle_n lvle_0))))) ?_
            exact ih x1 x2 v14 h12 hyp
          · replace hyp := (if_pos q13).symm.trans hyp
            cases hyp
            exact V_vret C dX5_expression_79
def F_X5_expression (N : Nat) (c_X5_expression : Int32 → Int32 → PH → Option PH) (c_X5_part : Int32 → PH → Option PH) (a1 : Int32) (a2 : Int32) (h : PH) : Option PH :=
  if a1 ≤ (3 : Int32) then
    bV (c_X5_expression (a1 + (1 : Int32)) a2 h) fun h3 =>
    F_X5_expression_b21 N c_X5_expression c_X5_part N a1 a2 (0 : Int32) h3
  else
    bV (c_X5_part a2 h) fun h5 =>
    some h5
set_option maxRecDepth 20000 in
set_option maxHeartbeats 4000000 in
theorem M_X5_expression (E : EV) {gf gl : Nat} {N : Nat} {c_X5_expression : Int32 → Int32 → PH → Option PH} {c_X5_part : Int32 → PH → Option PH} {a1 : Int32} {a2 : Int32} (hc_X5_expression : ∀ (a1 : Int32) (a2 : Int32) (h : PH) (h2 : PH), c_X5_expression a1 a2 h = some h2 → MV E 103 yX5_expression cX5_expression 5 none gf gl [.ref 3, .int a1, .int a2] h h2) (hc_X5_part : ∀ (a1 : Int32) (h : PH) (h2 : PH), c_X5_part a1 h = some h2 → MV E 103 yX5_part cX5_part 3 none gf gl [.ref 3, .int a1] h h2)  {h h2 : PH} (hyp : F_X5_expression N c_X5_expression c_X5_part a1 a2 h = some h2) : MV E 103 yX5_expression cX5_expression 5 none (gf + 1 + 3) (gl + 40 + 64) [.ref 3, .int a1, .int a2] h h2 := by
  refine MV.of 2 (by decide) rfl (fun X e1 C => ?_)
  subst e1
  replace C : CX X 103 cX5_expression 5 RX5 none (gf + 1 + 3) (gl + 40 + 64) := C
  show V X _ h 0 [some (.ref 3), some (.int a1), some (.int a2), none, none] []
  unfold F_X5_expression at hyp
  refine V_iload_n (pc := 0) C dX5_expression_0 rfl ?_
  refine V_iconst (pc := 1) C dX5_expression_1 (v := 3) (by decide) ?_
  refine V_icmp_le (pc := 2) C dX5_expression_2 (tgt := 11) (by decide) (fun q1 => ?_) (fun q1 => ?_)
  · replace hyp := (if_pos q1).symm.trans hyp
    refine V_aload_n (pc := 11) C dX5_expression_11 rfl ?_
    refine V_iload_n (pc := 12) C dX5_expression_12 rfl ?_
    refine V_iconst (pc := 13) C dX5_expression_13 (v := 1) (by decide) ?_
    refine V_iadd (pc := 14) C dX5_expression_14 ?_
    refine V_iload_n (pc := 15) C dX5_expression_15 rfl ?_
    obtain ⟨h3, eh3, hyp⟩ := bV_n hyp
    refine V_callV (pc := 16) C dX5_expression_16 lm_X5_45 mk_X5_expression ok_3 rfl (hc_X5_expression _ _ _ _ eh3) rfl pd_X5_expression (by decide) (by omega) (by omega) (As := [.int (a1 + (1 : Int32)), .int a2]) (rest := []) rfl (Nat.le_of_ble_eq_true rfl) ?_
    refine V_iconst (pc := 19) C dX5_expression_19 (v := 0) (by decide) ?_
    refine V_istore_n (pc := 20) C dX5_expression_20 (by decide) rfl ?_
    refine V_weak (lv' := [some (.ref 3), some (.int a1), some (.int a2), some (.int (0 : Int32)), none]) (lvle_s (lvle_s (lvle_s (lvle_s (lvle_n lvle_0))))) ?_
    exact (T_X5_expression_b21 C hc_X5_expression hc_X5_part) N a1 a2 (0 : Int32) h3 hyp
  · replace hyp := (if_neg q1).symm.trans hyp
    refine V_aload_n (pc := 5) C dX5_expression_5 rfl ?_
    refine V_iload_n (pc := 6) C dX5_expression_6 rfl ?_
    obtain ⟨h5, eh5, hyp⟩ := bV_n hyp
    refine V_callV (pc := 7) C dX5_expression_7 lm_X5_106 mk_X5_part ok_3 rfl (hc_X5_part _ _ _ eh5) rfl pd_X5_part (by decide) (by omega) (by omega) (As := [.int a2]) (rest := []) rfl (Nat.le_of_ble_eq_true rfl) ?_
    cases hyp
    exact V_vret C dX5_expression_10
theorem dX5_part_0 : decode cX5_part 0 = .ok (.aload_n 0, 1) := by decide +kernel
theorem dX5_part_1 : decode cX5_part 1 = .ok (.getfield 31, 3) := by decide +kernel
theorem dX5_part_4 : decode cX5_part 4 = .ok (.ifCond .eq 4, 3) := by decide +kernel
theorem dX5_part_7 : decode cX5_part 7 = .ok (.return_, 1) := by decide +kernel
theorem dX5_part_8 : decode cX5_part 8 = .ok (.aload_n 0, 1) := by decide +kernel
theorem dX5_part_9 : decode cX5_part 9 = .ok (.getfield 35, 3) := by decide +kernel
theorem dX5_part_12 : decode cX5_part 12 = .ok (.istore_n 2, 1) := by decide +kernel
theorem dX5_part_13 : decode cX5_part 13 = .ok (.aload_n 0, 1) := by decide +kernel
theorem dX5_part_14 : decode cX5_part 14 = .ok (.iload_n 2, 1) := by decide +kernel
theorem dX5_part_15 : decode cX5_part 15 = .ok (.invokevirtual 115, 3) := by decide +kernel
theorem dX5_part_18 : decode cX5_part 18 = .ok (.ifCond .ne 11, 3) := by decide +kernel
theorem dX5_part_21 : decode cX5_part 21 = .ok (.aload_n 0, 1) := by decide +kernel
theorem dX5_part_22 : decode cX5_part 22 = .ok (.iconst 1, 1) := by decide +kernel
theorem dX5_part_23 : decode cX5_part 23 = .ok (.invokevirtual 85, 3) := by decide +kernel
theorem dX5_part_26 : decode cX5_part 26 = .ok (.goto 100, 3) := by decide +kernel
theorem dX5_part_29 : decode cX5_part 29 = .ok (.iload_n 1, 1) := by decide +kernel
theorem dX5_part_30 : decode cX5_part 30 = .ok (.iconst 5, 1) := by decide +kernel
theorem dX5_part_31 : decode cX5_part 31 = .ok (.if_icmp .lt 11, 3) := by decide +kernel
theorem dX5_part_34 : decode cX5_part 34 = .ok (.aload_n 0, 1) := by decide +kernel
theorem dX5_part_35 : decode cX5_part 35 = .ok (.iconst 5, 1) := by decide +kernel
theorem dX5_part_36 : decode cX5_part 36 = .ok (.invokevirtual 85, 3) := by decide +kernel
theorem dX5_part_39 : decode cX5_part 39 = .ok (.goto 87, 3) := by decide +kernel
theorem dX5_part_42 : decode cX5_part 42 = .ok (.iload_n 2, 1) := by decide +kernel
theorem dX5_part_43 : decode cX5_part 43 = .ok (.bipush 18, 2) := by decide +kernel
theorem dX5_part_45 : decode cX5_part 45 = .ok (.if_icmp .ne 27, 3) := by decide +kernel
theorem dX5_part_48 : decode cX5_part 48 = .ok (.aload_n 0, 1) := by decide +kernel
theorem dX5_part_49 : decode cX5_part 49 = .ok (.invokevirtual 71, 3) := by decide +kernel
theorem dX5_part_52 : decode cX5_part 52 = .ok (.aload_n 0, 1) := by decide +kernel
theorem dX5_part_53 : decode cX5_part 53 = .ok (.iload_n 1, 1) := by decide +kernel
theorem dX5_part_54 : decode cX5_part 54 = .ok (.iconst 1, 1) := by decide +kernel
theorem dX5_part_55 : decode cX5_part 55 = .ok (.iadd, 1) := by decide +kernel
theorem dX5_part_56 : decode cX5_part 56 = .ok (.invokevirtual 106, 3) := by decide +kernel
theorem dX5_part_59 : decode cX5_part 59 = .ok (.aload_n 0, 1) := by decide +kernel
theorem dX5_part_60 : decode cX5_part 60 = .ok (.getfield 12, 3) := by decide +kernel
theorem dX5_part_63 : decode cX5_part 63 = .ok (.bipush 18, 2) := by decide +kernel
theorem dX5_part_65 : decode cX5_part 65 = .ok (.iconst 0, 1) := by decide +kernel
theorem dX5_part_66 : decode cX5_part 66 = .ok (.invokevirtual 112, 3) := by decide +kernel
theorem dX5_part_69 : decode cX5_part 69 = .ok (.goto 57, 3) := by decide +kernel
theorem dX5_part_72 : decode cX5_part 72 = .ok (.iload_n 2, 1) := by decide +kernel
theorem dX5_part_73 : decode cX5_part 73 = .ok (.iconst 4, 1) := by decide +kernel
theorem dX5_part_74 : decode cX5_part 74 = .ok (.if_icmp .ne 23, 3) := by decide +kernel
theorem dX5_part_77 : decode cX5_part 77 = .ok (.aload_n 0, 1) := by decide +kernel
theorem dX5_part_78 : decode cX5_part 78 = .ok (.invokevirtual 71, 3) := by decide +kernel
theorem dX5_part_81 : decode cX5_part 81 = .ok (.aload_n 0, 1) := by decide +kernel
theorem dX5_part_82 : decode cX5_part 82 = .ok (.iconst 0, 1) := by decide +kernel
theorem dX5_part_83 : decode cX5_part 83 = .ok (.iload_n 1, 1) := by decide +kernel
theorem dX5_part_84 : decode cX5_part 84 = .ok (.iconst 1, 1) := by decide +kernel
theorem dX5_part_85 : decode cX5_part 85 = .ok (.iadd, 1) := by decide +kernel
theorem dX5_part_86 : decode cX5_part 86 = .ok (.invokevirtual 45, 3) := by decide +kernel
theorem dX5_part_89 : decode cX5_part 89 = .ok (.aload_n 0, 1) := by decide +kernel
theorem dX5_part_90 : decode cX5_part 90 = .ok (.iconst 5, 1) := by decide +kernel
theorem dX5_part_91 : decode cX5_part 91 = .ok (.invokevirtual 52, 3) := by decide +kernel
theorem dX5_part_94 : decode cX5_part 94 = .ok (.goto 32, 3) := by decide +kernel
theorem dX5_part_97 : decode cX5_part 97 = .ok (.iload_n 2, 1) := by decide +kernel
theorem dX5_part_98 : decode cX5_part 98 = .ok (.iconst 2, 1) := by decide +kernel
theorem dX5_part_99 : decode cX5_part 99 = .ok (.if_icmp .ne 22, 3) := by decide +kernel
theorem dX5_part_102 : decode cX5_part 102 = .ok (.aload_n 0, 1) := by decide +kernel
theorem dX5_part_103 : decode cX5_part 103 = .ok (.getfield 12, 3) := by decide +kernel
theorem dX5_part_106 : decode cX5_part 106 = .ok (.iconst 2, 1) := by decide +kernel
theorem dX5_part_107 : decode cX5_part 107 = .ok (.aload_n 0, 1) := by decide +kernel
theorem dX5_part_108 : decode cX5_part 108 = .ok (.getfield 80, 3) := by decide +kernel
theorem dX5_part_111 : decode cX5_part 111 = .ok (.invokevirtual 112, 3) := by decide +kernel
theorem dX5_part_114 : decode cX5_part 114 = .ok (.aload_n 0, 1) := by decide +kernel
theorem dX5_part_115 : decode cX5_part 115 = .ok (.invokevirtual 71, 3) := by decide +kernel
theorem dX5_part_118 : decode cX5_part 118 = .ok (.goto 8, 3) := by decide +kernel
theorem dX5_part_121 : decode cX5_part 121 = .ok (.aload_n 0, 1) := by decide +kernel
theorem dX5_part_122 : decode cX5_part 122 = .ok (.iload_n 2, 1) := by decide +kernel
theorem dX5_part_123 : decode cX5_part 123 = .ok (.invokevirtual 118, 3) := by decide +kernel
theorem dX5_part_126 : decode cX5_part 126 = .ok (.return_, 1) := by decide +kernel
def F_X5_part (c_X5_expression : Int32 → Int32 → PH → Option PH) (c_X5_part : Int32 → PH → Option PH) (a1 : Int32) (h : PH) : Option PH :=
  if (h.1 3 5) = 0 then
    ib (h.1 3 3) fun v2 =>
    bI (F_X5_beginsPart v2 h) fun r3 h4 =>
    if r3 = 0 then
      bV (F_X5_blame (1 : Int32) h4) fun h31 =>
      some h31
    else
      if a1 < (5 : Int32) then
        if v2 = (18 : Int32) then
          bV (F_X5_advance  h4) fun h23 =>
          bV (c_X5_part (a1 + (1 : Int32)) h23) fun h25 =>
          bV (F_X2_add 4 (18 : Int32) (0 : Int32) h25) fun h27 =>
          some h27
        else
          if v2 = (4 : Int32) then
            bV (F_X5_advance  h4) fun h17 =>
            bV (c_X5_expression (0 : Int32) (a1 + (1 : Int32)) h17) fun h19 =>
            bV (F_X5_expect (5 : Int32) h19) fun h21 =>
            some h21
          else
            if v2 = (2 : Int32) then
              bV (F_X2_add 4 (2 : Int32) (h4.1 3 4) h4) fun h13 =>
              bV (F_X5_advance  h13) fun h15 =>
              some h15
            else
              bV (F_X5_fact v2 h4) fun h11 =>
              some h11
      else
        bV (F_X5_blame (5 : Int32) h4) fun h29 =>
        some h29
  else
    some h
set_option maxRecDepth 20000 in
set_option maxHeartbeats 4000000 in
theorem M_X5_part (E : EV) {gf gl : Nat} {c_X5_expression : Int32 → Int32 → PH → Option PH} {c_X5_part : Int32 → PH → Option PH} {a1 : Int32} (hc_X5_expression : ∀ (a1 : Int32) (a2 : Int32) (h : PH) (h2 : PH), c_X5_expression a1 a2 h = some h2 → MV E 103 yX5_expression cX5_expression 5 none gf gl [.ref 3, .int a1, .int a2] h h2) (hc_X5_part : ∀ (a1 : Int32) (h : PH) (h2 : PH), c_X5_part a1 h = some h2 → MV E 103 yX5_part cX5_part 3 none gf gl [.ref 3, .int a1] h h2)  {h h2 : PH} (hyp : F_X5_part c_X5_expression c_X5_part a1 h = some h2) : MV E 103 yX5_part cX5_part 3 none (gf + 1 + 3) (gl + 40 + 64) [.ref 3, .int a1] h h2 := by
  refine MV.of 1 (by decide) rfl (fun X e1 C => ?_)
  subst e1
  replace C : CX X 103 cX5_part 3 RX5 none (gf + 1 + 3) (gl + 40 + 64) := C
  show V X _ h 0 [some (.ref 3), some (.int a1), none] []
  unfold F_X5_part at hyp
  refine V_aload_n (pc := 0) C dX5_part_0 rfl ?_
  refine V_getI (pc := 1) C dX5_part_1 lf_X5_31 fk_3_5 ?_
  refine V_if_eq (pc := 4) C dX5_part_4 (tgt := 8) (by decide) (fun q1 => ?_) (fun q1 => ?_)
  · replace hyp := (if_pos q1).symm.trans hyp
    refine V_aload_n (pc := 8) C dX5_part_8 rfl ?_
    refine V_getI (pc := 9) C dX5_part_9 lf_X5_35 fk_3_3 ?_
    obtain ⟨v2, ev2, hyp⟩ := ib_n hyp
    refine V_topI ev2 ?_
    refine V_istore_n (pc := 12) C dX5_part_12 (by decide) rfl ?_
    refine V_aload_n (pc := 13) C dX5_part_13 rfl ?_
    refine V_iload_n (pc := 14) C dX5_part_14 rfl ?_
    obtain ⟨r3, h4, eh4, hyp⟩ := bI_n hyp
    refine V_callI (pc := 15) C dX5_part_15 lm_X5_115 mk_X5_beginsPart ok_3 rfl (M_X5_beginsPart _ eh4) rfl pd_X5_beginsPart (by decide) (by omega) (by omega) (As := [.int v2]) (rest := []) rfl (Nat.le_of_ble_eq_true rfl) ?_
    refine V_if_ne (pc := 18) C dX5_part_18 (tgt := 29) (by decide) (fun q5 => ?_) (fun q5 => ?_)
    · replace hyp := (if_neg q5).symm.trans hyp
      refine V_iload_n (pc := 29) C dX5_part_29 rfl ?_
      refine V_iconst (pc := 30) C dX5_part_30 (v := 5) (by decide) ?_
      refine V_icmp_lt (pc := 31) C dX5_part_31 (tgt := 42) (by decide) (fun q6 => ?_) (fun q6 => ?_)
      · replace hyp := (if_pos q6).symm.trans hyp
        refine V_iload_n (pc := 42) C dX5_part_42 rfl ?_
        refine V_bipush (pc := 43) C dX5_part_43 (v := 18) (by decide) ?_
        refine V_icmp_ne (pc := 45) C dX5_part_45 (tgt := 72) (by decide) (fun q7 => ?_) (fun q7 => ?_)
        · replace hyp := (if_neg q7).symm.trans hyp
          refine V_iload_n (pc := 72) C dX5_part_72 rfl ?_
          refine V_iconst (pc := 73) C dX5_part_73 (v := 4) (by decide) ?_
          refine V_icmp_ne (pc := 74) C dX5_part_74 (tgt := 97) (by decide) (fun q8 => ?_) (fun q8 => ?_)
          · replace hyp := (if_neg q8).symm.trans hyp
            refine V_iload_n (pc := 97) C dX5_part_97 rfl ?_
            refine V_iconst (pc := 98) C dX5_part_98 (v := 2) (by decide) ?_
            refine V_icmp_ne (pc := 99) C dX5_part_99 (tgt := 121) (by decide) (fun q9 => ?_) (fun q9 => ?_)
            · replace hyp := (if_neg q9).symm.trans hyp
              refine V_aload_n (pc := 121) C dX5_part_121 rfl ?_
              refine V_iload_n (pc := 122) C dX5_part_122 rfl ?_
              obtain ⟨h11, eh11, hyp⟩ := bV_n hyp
              refine V_callV (pc := 123) C dX5_part_123 lm_X5_118 mk_X5_fact ok_3 rfl (M_X5_fact _ eh11) rfl pd_X5_fact (by decide) (by omega) (by omega) (As := [.int v2]) (rest := []) rfl (Nat.le_of_ble_eq_true rfl) ?_
              cases hyp
              exact V_vret C dX5_part_126
            · replace hyp := (if_pos q9).symm.trans hyp
              refine V_aload_n (pc := 102) C dX5_part_102 rfl ?_
              refine V_getR (pc := 103) C dX5_part_103 lf_X5_12 fk_3_0 ?_
              refine V_iconst (pc := 106) C dX5_part_106 (v := 2) (by decide) ?_
              refine V_aload_n (pc := 107) C dX5_part_107 rfl ?_
              refine V_getI (pc := 108) C dX5_part_108 lf_X5_80 fk_3_4 ?_
              obtain ⟨h13, eh13, hyp⟩ := bV_n hyp
              refine V_callV (pc := 111) C dX5_part_111 lm_X5_112 mk_X2_add ok_4 rfl (M_X2_add _ isC_4 eh13) rfl pd_X2_add (by decide) (by omega) (by omega) (As := [.int (2 : Int32), .int (h4.1 3 4)]) (rest := []) rfl (Nat.le_of_ble_eq_true rfl) ?_
              refine V_aload_n (pc := 114) C dX5_part_114 rfl ?_
              obtain ⟨h15, eh15, hyp⟩ := bV_n hyp
              refine V_callV (pc := 115) C dX5_part_115 lm_X5_71 mk_X5_advance ok_3 rfl (M_X5_advance _ eh15) rfl pd_X5_advance (by decide) (by omega) (by omega) (As := []) (rest := []) rfl (Nat.le_of_ble_eq_true rfl) ?_
              refine V_goto (pc := 118) C dX5_part_118 (tgt := 126) (by decide) ?_
              cases hyp
              exact V_vret C dX5_part_126
          · replace hyp := (if_pos q8).symm.trans hyp
            refine V_aload_n (pc := 77) C dX5_part_77 rfl ?_
            obtain ⟨h17, eh17, hyp⟩ := bV_n hyp
            refine V_callV (pc := 78) C dX5_part_78 lm_X5_71 mk_X5_advance ok_3 rfl (M_X5_advance _ eh17) rfl pd_X5_advance (by decide) (by omega) (by omega) (As := []) (rest := []) rfl (Nat.le_of_ble_eq_true rfl) ?_
            refine V_aload_n (pc := 81) C dX5_part_81 rfl ?_
            refine V_iconst (pc := 82) C dX5_part_82 (v := 0) (by decide) ?_
            refine V_iload_n (pc := 83) C dX5_part_83 rfl ?_
            refine V_iconst (pc := 84) C dX5_part_84 (v := 1) (by decide) ?_
            refine V_iadd (pc := 85) C dX5_part_85 ?_
            obtain ⟨h19, eh19, hyp⟩ := bV_n hyp
            refine V_callV (pc := 86) C dX5_part_86 lm_X5_45 mk_X5_expression ok_3 rfl (hc_X5_expression _ _ _ _ eh19) rfl pd_X5_expression (by decide) (by omega) (by omega) (As := [.int (0 : Int32), .int (a1 + (1 : Int32))]) (rest := []) rfl (Nat.le_of_ble_eq_true rfl) ?_
            refine V_aload_n (pc := 89) C dX5_part_89 rfl ?_
            refine V_iconst (pc := 90) C dX5_part_90 (v := 5) (by decide) ?_
            obtain ⟨h21, eh21, hyp⟩ := bV_n hyp
            refine V_callV (pc := 91) C dX5_part_91 lm_X5_52 mk_X5_expect ok_3 rfl (M_X5_expect _ eh21) rfl pd_X5_expect (by decide) (by omega) (by omega) (As := [.int (5 : Int32)]) (rest := []) rfl (Nat.le_of_ble_eq_true rfl) ?_
            refine V_goto (pc := 94) C dX5_part_94 (tgt := 126) (by decide) ?_
            cases hyp
            exact V_vret C dX5_part_126
        · replace hyp := (if_pos q7).symm.trans hyp
          refine V_aload_n (pc := 48) C dX5_part_48 rfl ?_
          obtain ⟨h23, eh23, hyp⟩ := bV_n hyp
          refine V_callV (pc := 49) C dX5_part_49 lm_X5_71 mk_X5_advance ok_3 rfl (M_X5_advance _ eh23) rfl pd_X5_advance (by decide) (by omega) (by omega) (As := []) (rest := []) rfl (Nat.le_of_ble_eq_true rfl) ?_
          refine V_aload_n (pc := 52) C dX5_part_52 rfl ?_
          refine V_iload_n (pc := 53) C dX5_part_53 rfl ?_
          refine V_iconst (pc := 54) C dX5_part_54 (v := 1) (by decide) ?_
          refine V_iadd (pc := 55) C dX5_part_55 ?_
          obtain ⟨h25, eh25, hyp⟩ := bV_n hyp
          refine V_callV (pc := 56) C dX5_part_56 lm_X5_106 mk_X5_part ok_3 rfl (hc_X5_part _ _ _ eh25) rfl pd_X5_part (by decide) (by omega) (by omega) (As := [.int (a1 + (1 : Int32))]) (rest := []) rfl (Nat.le_of_ble_eq_true rfl) ?_
          refine V_aload_n (pc := 59) C dX5_part_59 rfl ?_
          refine V_getR (pc := 60) C dX5_part_60 lf_X5_12 fk_3_0 ?_
          refine V_bipush (pc := 63) C dX5_part_63 (v := 18) (by decide) ?_
          refine V_iconst (pc := 65) C dX5_part_65 (v := 0) (by decide) ?_
          obtain ⟨h27, eh27, hyp⟩ := bV_n hyp
          refine V_callV (pc := 66) C dX5_part_66 lm_X5_112 mk_X2_add ok_4 rfl (M_X2_add _ isC_4 eh27) rfl pd_X2_add (by decide) (by omega) (by omega) (As := [.int (18 : Int32), .int (0 : Int32)]) (rest := []) rfl (Nat.le_of_ble_eq_true rfl) ?_
          refine V_goto (pc := 69) C dX5_part_69 (tgt := 126) (by decide) ?_
          cases hyp
          exact V_vret C dX5_part_126
      · replace hyp := (if_neg q6).symm.trans hyp
        refine V_aload_n (pc := 34) C dX5_part_34 rfl ?_
        refine V_iconst (pc := 35) C dX5_part_35 (v := 5) (by decide) ?_
        obtain ⟨h29, eh29, hyp⟩ := bV_n hyp
        refine V_callV (pc := 36) C dX5_part_36 lm_X5_85 mk_X5_blame ok_3 rfl (M_X5_blame _ eh29) rfl pd_X5_blame (by decide) (by omega) (by omega) (As := [.int (5 : Int32)]) (rest := []) rfl (Nat.le_of_ble_eq_true rfl) ?_
        refine V_goto (pc := 39) C dX5_part_39 (tgt := 126) (by decide) ?_
        cases hyp
        exact V_vret C dX5_part_126
    · replace hyp := (if_pos q5).symm.trans hyp
      refine V_aload_n (pc := 21) C dX5_part_21 rfl ?_
      refine V_iconst (pc := 22) C dX5_part_22 (v := 1) (by decide) ?_
      obtain ⟨h31, eh31, hyp⟩ := bV_n hyp
      refine V_callV (pc := 23) C dX5_part_23 lm_X5_85 mk_X5_blame ok_3 rfl (M_X5_blame _ eh31) rfl pd_X5_blame (by decide) (by omega) (by omega) (As := [.int (1 : Int32)]) (rest := []) rfl (Nat.le_of_ble_eq_true rfl) ?_
      refine V_goto (pc := 26) C dX5_part_26 (tgt := 126) (by decide) ?_
      cases hyp
      exact V_vret C dX5_part_126
  · replace hyp := (if_neg q1).symm.trans hyp
    cases hyp
    exact V_vret C dX5_part_7
def EP (N : Nat) : Nat → (Int32 → Int32 → PH → Option PH) × (Int32 → PH → Option PH)
  | 0 => (fun _ _ _ => none, fun _ _ => none)
  | d + 1 => (F_X5_expression N ((EP N d).1) ((EP N d).2), F_X5_part ((EP N d).1) ((EP N d).2))
set_option maxRecDepth 20000 in
set_option maxHeartbeats 4000000 in
theorem EP_ok (E : EV) (N : Nat) : ∀ d : Nat, (∀ (a1 : Int32) (a2 : Int32) (h : PH) (h2 : PH), (EP N d).1 a1 a2 h = some h2 → MV E 103 yX5_expression cX5_expression 5 none (d * 4) (d * 104) [.ref 3, .int a1, .int a2] h h2) ∧ (∀ (a1 : Int32) (h : PH) (h2 : PH), (EP N d).2 a1 h = some h2 → MV E 103 yX5_part cX5_part 3 none (d * 4) (d * 104) [.ref 3, .int a1] h h2) := by
  intro d
  induction d with
  | zero => refine ⟨(by intros; rename_i e; cases e), (by intros; rename_i e; cases e)⟩
  | succ d ih =>
    have e1 : (d + 1) * 4 = d * 4 + 1 + 3 := by omega
    have e2 : (d + 1) * 104 = d * 104 + 40 + 64 := by omega
    rw [e1, e2]
    refine ⟨fun a1 a2 h h2 hyp => M_X5_expression E ih.1 ih.2  hyp, fun a1 h h2 hyp => M_X5_part E ih.1 ih.2  hyp⟩
def G_X5_expression (N : Nat) (a1 : Int32) (a2 : Int32) (h : PH) : Option PH := (EP N 40).1 a1 a2 h
theorem MG_X5_expression (E : EV) {N : Nat} {a1 : Int32} {a2 : Int32} {h h2 : PH} (hyp : G_X5_expression N a1 a2 h = some h2) : MV E 103 yX5_expression cX5_expression 5 none 160 4160 [.ref 3, .int a1, .int a2] h h2 := (EP_ok E N 40).1 a1 a2 h h2  hyp
def G_X5_part (N : Nat) (a1 : Int32) (h : PH) : Option PH := (EP N 40).2 a1 h
theorem MG_X5_part (E : EV) {N : Nat} {a1 : Int32} {h h2 : PH} (hyp : G_X5_part N a1 h = some h2) : MV E 103 yX5_part cX5_part 3 none 160 4160 [.ref 3, .int a1] h h2 := (EP_ok E N 40).2 a1 h h2  hyp
