theorem dX12_rule_0 : decode cX12_rule 0 = .ok (.aload_n 0, 1) := by decide +kernel
theorem dX12_rule_1 : decode cX12_rule 1 = .ok (.iconst 0, 1) := by decide +kernel
theorem dX12_rule_2 : decode cX12_rule 2 = .ok (.putfield 180, 3) := by decide +kernel
theorem dX12_rule_5 : decode cX12_rule 5 = .ok (.aload_n 0, 1) := by decide +kernel
theorem dX12_rule_6 : decode cX12_rule 6 = .ok (.iconst 1, 1) := by decide +kernel
theorem dX12_rule_7 : decode cX12_rule 7 = .ok (.putfield 250, 3) := by decide +kernel
theorem dX12_rule_10 : decode cX12_rule 10 = .ok (.aload_n 0, 1) := by decide +kernel
theorem dX12_rule_11 : decode cX12_rule 11 = .ok (.sipush 3000, 3) := by decide +kernel
theorem dX12_rule_14 : decode cX12_rule 14 = .ok (.putfield 247, 3) := by decide +kernel
theorem dX12_rule_17 : decode cX12_rule 17 = .ok (.aload_n 0, 1) := by decide +kernel
theorem dX12_rule_18 : decode cX12_rule 18 = .ok (.invokevirtual 333, 3) := by decide +kernel
theorem dX12_rule_21 : decode cX12_rule 21 = .ok (.aload_n 0, 1) := by decide +kernel
theorem dX12_rule_22 : decode cX12_rule 22 = .ok (.getfield 233, 3) := by decide +kernel
theorem dX12_rule_25 : decode cX12_rule 25 = .ok (.ifCond .ne 10, 3) := by decide +kernel
theorem dX12_rule_28 : decode cX12_rule 28 = .ok (.aload_n 0, 1) := by decide +kernel
theorem dX12_rule_29 : decode cX12_rule 29 = .ok (.iconst 0, 1) := by decide +kernel
theorem dX12_rule_30 : decode cX12_rule 30 = .ok (.putfield 187, 3) := by decide +kernel
theorem dX12_rule_33 : decode cX12_rule 33 = .ok (.iconst 0, 1) := by decide +kernel
theorem dX12_rule_34 : decode cX12_rule 34 = .ok (.ireturn, 1) := by decide +kernel
theorem dX12_rule_35 : decode cX12_rule 35 = .ok (.aload_n 0, 1) := by decide +kernel
theorem dX12_rule_36 : decode cX12_rule 36 = .ok (.invokevirtual 329, 3) := by decide +kernel
theorem dX12_rule_39 : decode cX12_rule 39 = .ok (.ifCond .ne 8, 3) := by decide +kernel
theorem dX12_rule_42 : decode cX12_rule 42 = .ok (.aload_n 0, 1) := by decide +kernel
theorem dX12_rule_43 : decode cX12_rule 43 = .ok (.getfield 244, 3) := by decide +kernel
theorem dX12_rule_46 : decode cX12_rule 46 = .ok (.ireturn, 1) := by decide +kernel
theorem dX12_rule_47 : decode cX12_rule 47 = .ok (.aload_n 0, 1) := by decide +kernel
theorem dX12_rule_48 : decode cX12_rule 48 = .ok (.iconst 1, 1) := by decide +kernel
theorem dX12_rule_49 : decode cX12_rule 49 = .ok (.putfield 187, 3) := by decide +kernel
theorem dX12_rule_52 : decode cX12_rule 52 = .ok (.aload_n 0, 1) := by decide +kernel
theorem dX12_rule_53 : decode cX12_rule 53 = .ok (.getfield 21, 3) := by decide +kernel
theorem dX12_rule_56 : decode cX12_rule 56 = .ok (.bipush 25, 2) := by decide +kernel
theorem dX12_rule_58 : decode cX12_rule 58 = .ok (.sipush 1000, 3) := by decide +kernel
theorem dX12_rule_61 : decode cX12_rule 61 = .ok (.iastore, 1) := by decide +kernel
theorem dX12_rule_62 : decode cX12_rule 62 = .ok (.aload_n 0, 1) := by decide +kernel
theorem dX12_rule_63 : decode cX12_rule 63 = .ok (.getfield 24, 3) := by decide +kernel
theorem dX12_rule_66 : decode cX12_rule 66 = .ok (.bipush 25, 2) := by decide +kernel
theorem dX12_rule_68 : decode cX12_rule 68 = .ok (.aload_n 0, 1) := by decide +kernel
theorem dX12_rule_69 : decode cX12_rule 69 = .ok (.getfield 247, 3) := by decide +kernel
theorem dX12_rule_72 : decode cX12_rule 72 = .ok (.sipush 2000, 3) := by decide +kernel
theorem dX12_rule_75 : decode cX12_rule 75 = .ok (.isub, 1) := by decide +kernel
theorem dX12_rule_76 : decode cX12_rule 76 = .ok (.iastore, 1) := by decide +kernel
theorem dX12_rule_77 : decode cX12_rule 77 = .ok (.iconst 0, 1) := by decide +kernel
theorem dX12_rule_78 : decode cX12_rule 78 = .ok (.istore_n 1, 1) := by decide +kernel
theorem dX12_rule_79 : decode cX12_rule 79 = .ok (.iload_n 1, 1) := by decide +kernel
theorem dX12_rule_80 : decode cX12_rule 80 = .ok (.sipush 1000, 3) := by decide +kernel
theorem dX12_rule_83 : decode cX12_rule 83 = .ok (.if_icmp .ge 29, 3) := by decide +kernel
theorem dX12_rule_86 : decode cX12_rule 86 = .ok (.aload_n 0, 1) := by decide +kernel
theorem dX12_rule_87 : decode cX12_rule 87 = .ok (.getfield 36, 3) := by decide +kernel
theorem dX12_rule_90 : decode cX12_rule 90 = .ok (.sipush 1000, 3) := by decide +kernel
theorem dX12_rule_93 : decode cX12_rule 93 = .ok (.iload_n 1, 1) := by decide +kernel
theorem dX12_rule_94 : decode cX12_rule 94 = .ok (.iadd, 1) := by decide +kernel
theorem dX12_rule_95 : decode cX12_rule 95 = .ok (.aload_n 0, 1) := by decide +kernel
theorem dX12_rule_96 : decode cX12_rule 96 = .ok (.getfield 36, 3) := by decide +kernel
theorem dX12_rule_99 : decode cX12_rule 99 = .ok (.sipush 3000, 3) := by decide +kernel
theorem dX12_rule_102 : decode cX12_rule 102 = .ok (.iload_n 1, 1) := by decide +kernel
theorem dX12_rule_103 : decode cX12_rule 103 = .ok (.iadd, 1) := by decide +kernel
theorem dX12_rule_104 : decode cX12_rule 104 = .ok (.iaload, 1) := by decide +kernel
theorem dX12_rule_105 : decode cX12_rule 105 = .ok (.iastore, 1) := by decide +kernel
theorem dX12_rule_106 : decode cX12_rule 106 = .ok (.iinc 1 1, 3) := by decide +kernel
theorem dX12_rule_109 : decode cX12_rule 109 = .ok (.goto (-30), 3) := by decide +kernel
theorem dX12_rule_112 : decode cX12_rule 112 = .ok (.iconst 0, 1) := by decide +kernel
theorem dX12_rule_113 : decode cX12_rule 113 = .ok (.ireturn, 1) := by decide +kernel
def F_X12_rule_b79 (N : Nat) : Nat → Int32 → PH → Option (Int32 × PH)
  | 0, _, _ => none
  | n + 1, x1, h =>
    if (1000 : Int32) ≤ x1 then
      some ((0 : Int32), h)
    else
      if inb ((3000 : Int32) + x1) 4000 = true then
      if inb ((1000 : Int32) + x1) 4000 = true then
      hb (hs h 111 ((1000 : Int32) + x1).toNatClampNeg (h.1 111 ((3000 : Int32) + x1).toNatClampNeg)) fun h4 =>
      ib (x1 + (1 : Int32)) fun v5 =>
      F_X12_rule_b79 N n v5 h4
      else none
      else none
set_option maxRecDepth 20000 in
set_option maxHeartbeats 4000000 in
theorem T_X12_rule_b79 {X : CT} (C : CX X 154 cX12_rule 2 RX12 (some .int) 4 88) {r0 : Int32} {h0 : PH} {N : Nat} : ∀ (n : Nat) (x1 : Int32) (h : PH), F_X12_rule_b79 N n x1 h = some (r0, h0) → V X (QI X r0 h0) h 79 [some (.ref 103), some (.int x1)] [] := by
  intro n
  induction n with
  | zero =>
    intro x1 h hyp
    cases hyp
  | succ n ih =>
    intro x1 h hyp
    unfold F_X12_rule_b79 at hyp
    refine V_iload_n (pc := 79) C dX12_rule_79 rfl ?_
    refine V_sipush (pc := 80) C dX12_rule_80 (v := 1000) (by decide) ?_
    refine V_icmp_ge (pc := 83) C dX12_rule_83 (tgt := 112) (by decide) (fun q1 => ?_) (fun q1 => ?_)
    · replace hyp := (if_pos q1).symm.trans hyp
      refine V_iconst (pc := 112) C dX12_rule_112 (v := 0) (by decide) ?_
      cases hyp
      exact V_iret C dX12_rule_113
    · replace hyp := (if_neg q1).symm.trans hyp
      refine V_aload_n (pc := 86) C dX12_rule_86 rfl ?_
      refine V_getR (pc := 87) C dX12_rule_87 lf_X12_36 fk_103_17 ?_
      refine V_sipush (pc := 90) C dX12_rule_90 (v := 1000) (by decide) ?_
      refine V_iload_n (pc := 93) C dX12_rule_93 rfl ?_
      refine V_iadd (pc := 94) C dX12_rule_94 ?_
      refine V_aload_n (pc := 95) C dX12_rule_95 rfl ?_
      refine V_getR (pc := 96) C dX12_rule_96 lf_X12_36 fk_103_17 ?_
      refine V_sipush (pc := 99) C dX12_rule_99 (v := 3000) (by decide) ?_
      refine V_iload_n (pc := 102) C dX12_rule_102 rfl ?_
      refine V_iadd (pc := 103) C dX12_rule_103 ?_
      obtain ⟨g2, hyp⟩ := gd_n hyp
      refine V_iald (pc := 104) C dX12_rule_104 ak_111 g2 ?_
      obtain ⟨g3, hyp⟩ := gd_n hyp
      obtain ⟨h4, eh4, hyp⟩ := hb_n hyp
      refine V_iast (pc := 105) C dX12_rule_105 ak_111 g3 eh4 ?_
      obtain ⟨v5, ev5, hyp⟩ := ib_n hyp
      refine V_iinc (pc := 106) C dX12_rule_106 (v := v5) rfl (by rw [ev5]; rfl) (by decide) rfl ?_
      refine V_goto (pc := 109) C dX12_rule_109 (tgt := 79) (by decide) ?_
      refine V_weak (lv' := [some (.ref 103), some (.int v5)]) (lvle_s (lvle_s lvle_0)) ?_
      exact ih v5 h4 hyp
def F_X12_rule (N : Nat) (h : PH) : Option (Int32 × PH) :=
  hb (hs h 103 0 (0 : Int32)) fun h1 =>
  hb (hs h1 103 19 (1 : Int32)) fun h2 =>
  hb (hs h2 103 18 (3000 : Int32)) fun h3 =>
  bV (F_X12_takesTape N  h3) fun h5 =>
  if (h5.1 103 7) = 0 then
    hb (hs h5 103 20 (0 : Int32)) fun h14 =>
    some ((0 : Int32), h14)
  else
    bI (F_X12_reads N  h5) fun r7 h8 =>
    if r7 = 0 then
      some (h8.1 103 10, h8)
    else
      hb (hs h8 103 20 (1 : Int32)) fun h10 =>
      if inb (25 : Int32) 26 = true then
      hb (hs h10 106 (25 : Int32).toNatClampNeg (1000 : Int32)) fun h12 =>
      hb (hs h12 107 (25 : Int32).toNatClampNeg ((h12.1 103 18) - (2000 : Int32))) fun h13 =>
      F_X12_rule_b79 N N (0 : Int32) h13
      else none
set_option maxRecDepth 20000 in
set_option maxHeartbeats 4000000 in
theorem M_X12_rule (E : EV) {N : Nat} {r : Int32} {h h2 : PH} (hyp : F_X12_rule N  h = some (r, h2)) : MI E 154 yX12_rule cX12_rule 2 (some .int) 4 88 [.ref 103] h r h2 := by
  refine MI.of 1 (by decide) rfl (fun X e1 C => ?_)
  subst e1
  replace C : CX X 154 cX12_rule 2 RX12 (some .int) 4 88 := C
  show V X _ h 0 [some (.ref 103), none] []
  unfold F_X12_rule at hyp
  refine V_aload_n (pc := 0) C dX12_rule_0 rfl ?_
  refine V_iconst (pc := 1) C dX12_rule_1 (v := 0) (by decide) ?_
  obtain ⟨h1, eh1, hyp⟩ := hb_n hyp
  refine V_putI (pc := 2) C dX12_rule_2 lf_X12_180 fk_103_0 rfl rfl eh1 ?_
  refine V_aload_n (pc := 5) C dX12_rule_5 rfl ?_
  refine V_iconst (pc := 6) C dX12_rule_6 (v := 1) (by decide) ?_
  obtain ⟨h2, eh2, hyp⟩ := hb_n hyp
  refine V_putI (pc := 7) C dX12_rule_7 lf_X12_250 fk_103_19 rfl rfl eh2 ?_
  refine V_aload_n (pc := 10) C dX12_rule_10 rfl ?_
  refine V_sipush (pc := 11) C dX12_rule_11 (v := 3000) (by decide) ?_
  obtain ⟨h3, eh3, hyp⟩ := hb_n hyp
  refine V_putI (pc := 14) C dX12_rule_14 lf_X12_247 fk_103_18 rfl rfl eh3 ?_
  refine V_aload_n (pc := 17) C dX12_rule_17 rfl ?_
  obtain ⟨h5, eh5, hyp⟩ := bV_n hyp
  refine V_callV (pc := 18) C dX12_rule_18 lm_X12_333 mk_X12_takesTape ok_103 rfl (M_X12_takesTape _ eh5) rfl pd_X12_takesTape (by decide) (by decide) (by decide) (As := []) (rest := []) rfl (Nat.le_of_ble_eq_true rfl) ?_
  refine V_aload_n (pc := 21) C dX12_rule_21 rfl ?_
  refine V_getI (pc := 22) C dX12_rule_22 lf_X12_233 fk_103_7 ?_
  refine V_if_ne (pc := 25) C dX12_rule_25 (tgt := 35) (by decide) (fun q6 => ?_) (fun q6 => ?_)
  · replace hyp := (if_neg q6).symm.trans hyp
    refine V_aload_n (pc := 35) C dX12_rule_35 rfl ?_
    obtain ⟨r7, h8, eh8, hyp⟩ := bI_n hyp
    refine V_callI (pc := 36) C dX12_rule_36 lm_X12_329 mk_X12_reads ok_103 rfl (M_X12_reads _ eh8) rfl pd_X12_reads (by decide) (by decide) (by decide) (As := []) (rest := []) rfl (Nat.le_of_ble_eq_true rfl) ?_
    refine V_if_ne (pc := 39) C dX12_rule_39 (tgt := 47) (by decide) (fun q9 => ?_) (fun q9 => ?_)
    · replace hyp := (if_neg q9).symm.trans hyp
      refine V_aload_n (pc := 47) C dX12_rule_47 rfl ?_
      refine V_iconst (pc := 48) C dX12_rule_48 (v := 1) (by decide) ?_
      obtain ⟨h10, eh10, hyp⟩ := hb_n hyp
      refine V_putI (pc := 49) C dX12_rule_49 lf_X12_187 fk_103_20 rfl rfl eh10 ?_
      refine V_aload_n (pc := 52) C dX12_rule_52 rfl ?_
      refine V_getR (pc := 53) C dX12_rule_53 lf_X12_21 fk_103_12 ?_
      refine V_bipush (pc := 56) C dX12_rule_56 (v := 25) (by decide) ?_
      refine V_sipush (pc := 58) C dX12_rule_58 (v := 1000) (by decide) ?_
      obtain ⟨g11, hyp⟩ := gd_n hyp
      obtain ⟨h12, eh12, hyp⟩ := hb_n hyp
      refine V_iast (pc := 61) C dX12_rule_61 ak_106 g11 eh12 ?_
      refine V_aload_n (pc := 62) C dX12_rule_62 rfl ?_
      refine V_getR (pc := 63) C dX12_rule_63 lf_X12_24 fk_103_13 ?_
      refine V_bipush (pc := 66) C dX12_rule_66 (v := 25) (by decide) ?_
      refine V_aload_n (pc := 68) C dX12_rule_68 rfl ?_
      refine V_getI (pc := 69) C dX12_rule_69 lf_X12_247 fk_103_18 ?_
      refine V_sipush (pc := 72) C dX12_rule_72 (v := 2000) (by decide) ?_
      refine V_isub (pc := 75) C dX12_rule_75 ?_
      obtain ⟨h13, eh13, hyp⟩ := hb_n hyp
      refine V_iast (pc := 76) C dX12_rule_76 ak_107 g11 eh13 ?_
      refine V_iconst (pc := 77) C dX12_rule_77 (v := 0) (by decide) ?_
      refine V_istore_n (pc := 78) C dX12_rule_78 (by decide) rfl ?_
      refine V_weak (lv' := [some (.ref 103), some (.int (0 : Int32))]) (lvle_s (lvle_s lvle_0)) ?_
      exact (T_X12_rule_b79 C) N (0 : Int32) h13 hyp
    · replace hyp := (if_pos q9).symm.trans hyp
      refine V_aload_n (pc := 42) C dX12_rule_42 rfl ?_
      refine V_getI (pc := 43) C dX12_rule_43 lf_X12_244 fk_103_10 ?_
      cases hyp
      exact V_iret C dX12_rule_46
  · replace hyp := (if_pos q6).symm.trans hyp
    refine V_aload_n (pc := 28) C dX12_rule_28 rfl ?_
    refine V_iconst (pc := 29) C dX12_rule_29 (v := 0) (by decide) ?_
    obtain ⟨h14, eh14, hyp⟩ := hb_n hyp
    refine V_putI (pc := 30) C dX12_rule_30 lf_X12_187 fk_103_20 rfl rfl eh14 ?_
    refine V_iconst (pc := 33) C dX12_rule_33 (v := 0) (by decide) ?_
    cases hyp
    exact V_iret C dX12_rule_34
theorem dX12_opens_0 : decode cX12_opens 0 = .ok (.aload_n 0, 1) := by decide +kernel
theorem dX12_opens_1 : decode cX12_opens 1 = .ok (.getfield 48, 3) := by decide +kernel
theorem dX12_opens_4 : decode cX12_opens 4 = .ok (.iload_n 1, 1) := by decide +kernel
theorem dX12_opens_5 : decode cX12_opens 5 = .ok (.iconst 0, 1) := by decide +kernel
theorem dX12_opens_6 : decode cX12_opens 6 = .ok (.iastore, 1) := by decide +kernel
theorem dX12_opens_7 : decode cX12_opens 7 = .ok (.aload_n 0, 1) := by decide +kernel
theorem dX12_opens_8 : decode cX12_opens 8 = .ok (.getfield 54, 3) := by decide +kernel
theorem dX12_opens_11 : decode cX12_opens 11 = .ok (.iload_n 1, 1) := by decide +kernel
theorem dX12_opens_12 : decode cX12_opens 12 = .ok (.iconst 0, 1) := by decide +kernel
theorem dX12_opens_13 : decode cX12_opens 13 = .ok (.iastore, 1) := by decide +kernel
theorem dX12_opens_14 : decode cX12_opens 14 = .ok (.aload_n 0, 1) := by decide +kernel
theorem dX12_opens_15 : decode cX12_opens 15 = .ok (.getfield 57, 3) := by decide +kernel
theorem dX12_opens_18 : decode cX12_opens 18 = .ok (.iload_n 1, 1) := by decide +kernel
theorem dX12_opens_19 : decode cX12_opens 19 = .ok (.iconst 0, 1) := by decide +kernel
theorem dX12_opens_20 : decode cX12_opens 20 = .ok (.iastore, 1) := by decide +kernel
theorem dX12_opens_21 : decode cX12_opens 21 = .ok (.aload_n 0, 1) := by decide +kernel
theorem dX12_opens_22 : decode cX12_opens 22 = .ok (.getfield 60, 3) := by decide +kernel
theorem dX12_opens_25 : decode cX12_opens 25 = .ok (.iload_n 1, 1) := by decide +kernel
theorem dX12_opens_26 : decode cX12_opens 26 = .ok (.bipush 20, 2) := by decide +kernel
theorem dX12_opens_28 : decode cX12_opens 28 = .ok (.iastore, 1) := by decide +kernel
theorem dX12_opens_29 : decode cX12_opens 29 = .ok (.aload_n 0, 1) := by decide +kernel
theorem dX12_opens_30 : decode cX12_opens 30 = .ok (.getfield 66, 3) := by decide +kernel
theorem dX12_opens_33 : decode cX12_opens 33 = .ok (.iload_n 1, 1) := by decide +kernel
theorem dX12_opens_34 : decode cX12_opens 34 = .ok (.iconst 0, 1) := by decide +kernel
theorem dX12_opens_35 : decode cX12_opens 35 = .ok (.iastore, 1) := by decide +kernel
theorem dX12_opens_36 : decode cX12_opens 36 = .ok (.return_, 1) := by decide +kernel
def F_X12_opens (a1 : Int32) (h : PH) : Option PH :=
  if inb a1 7 = true then
  hb (hs h 115 a1.toNatClampNeg (0 : Int32)) fun h2 =>
  hb (hs h2 117 a1.toNatClampNeg (0 : Int32)) fun h3 =>
  hb (hs h3 118 a1.toNatClampNeg (0 : Int32)) fun h4 =>
  hb (hs h4 119 a1.toNatClampNeg (20 : Int32)) fun h5 =>
  hb (hs h5 121 a1.toNatClampNeg (0 : Int32)) fun h6 =>
  some h6
  else none
set_option maxRecDepth 20000 in
set_option maxHeartbeats 4000000 in
theorem M_X12_opens (E : EV) {a1 : Int32} {h h2 : PH} (hyp : F_X12_opens a1 h = some h2) : MV E 154 yX12_opens cX12_opens 2 none 0 0 [.ref 103, .int a1] h h2 := by
  refine MV.of 0 (by decide) rfl (fun X e1 C => ?_)
  subst e1
  replace C : CX X 154 cX12_opens 2 RX12 none 0 0 := C
  show V X _ h 0 [some (.ref 103), some (.int a1)] []
  unfold F_X12_opens at hyp
  refine V_aload_n (pc := 0) C dX12_opens_0 rfl ?_
  refine V_getR (pc := 1) C dX12_opens_1 lf_X12_48 fk_103_24 ?_
  refine V_iload_n (pc := 4) C dX12_opens_4 rfl ?_
  refine V_iconst (pc := 5) C dX12_opens_5 (v := 0) (by decide) ?_
  obtain ⟨g1, hyp⟩ := gd_n hyp
  obtain ⟨h2, eh2, hyp⟩ := hb_n hyp
  refine V_iast (pc := 6) C dX12_opens_6 ak_115 g1 eh2 ?_
  refine V_aload_n (pc := 7) C dX12_opens_7 rfl ?_
  refine V_getR (pc := 8) C dX12_opens_8 lf_X12_54 fk_103_26 ?_
  refine V_iload_n (pc := 11) C dX12_opens_11 rfl ?_
  refine V_iconst (pc := 12) C dX12_opens_12 (v := 0) (by decide) ?_
  obtain ⟨h3, eh3, hyp⟩ := hb_n hyp
  refine V_iast (pc := 13) C dX12_opens_13 ak_117 g1 eh3 ?_
  refine V_aload_n (pc := 14) C dX12_opens_14 rfl ?_
  refine V_getR (pc := 15) C dX12_opens_15 lf_X12_57 fk_103_27 ?_
  refine V_iload_n (pc := 18) C dX12_opens_18 rfl ?_
  refine V_iconst (pc := 19) C dX12_opens_19 (v := 0) (by decide) ?_
  obtain ⟨h4, eh4, hyp⟩ := hb_n hyp
  refine V_iast (pc := 20) C dX12_opens_20 ak_118 g1 eh4 ?_
  refine V_aload_n (pc := 21) C dX12_opens_21 rfl ?_
  refine V_getR (pc := 22) C dX12_opens_22 lf_X12_60 fk_103_28 ?_
  refine V_iload_n (pc := 25) C dX12_opens_25 rfl ?_
  refine V_bipush (pc := 26) C dX12_opens_26 (v := 20) (by decide) ?_
  obtain ⟨h5, eh5, hyp⟩ := hb_n hyp
  refine V_iast (pc := 28) C dX12_opens_28 ak_119 g1 eh5 ?_
  refine V_aload_n (pc := 29) C dX12_opens_29 rfl ?_
  refine V_getR (pc := 30) C dX12_opens_30 lf_X12_66 fk_103_30 ?_
  refine V_iload_n (pc := 33) C dX12_opens_33 rfl ?_
  refine V_iconst (pc := 34) C dX12_opens_34 (v := 0) (by decide) ?_
  obtain ⟨h6, eh6, hyp⟩ := hb_n hyp
  refine V_iast (pc := 35) C dX12_opens_35 ak_121 g1 eh6 ?_
  cases hyp
  exact V_vret C dX12_opens_36
theorem dX12_sums_0 : decode cX12_sums 0 = .ok (.aload_n 0, 1) := by decide +kernel
theorem dX12_sums_1 : decode cX12_sums 1 = .ok (.getfield 57, 3) := by decide +kernel
theorem dX12_sums_4 : decode cX12_sums 4 = .ok (.iload_n 1, 1) := by decide +kernel
theorem dX12_sums_5 : decode cX12_sums 5 = .ok (.aload_n 0, 1) := by decide +kernel
theorem dX12_sums_6 : decode cX12_sums 6 = .ok (.getfield 60, 3) := by decide +kernel
theorem dX12_sums_9 : decode cX12_sums 9 = .ok (.iload_n 1, 1) := by decide +kernel
theorem dX12_sums_10 : decode cX12_sums 10 = .ok (.iaload, 1) := by decide +kernel
theorem dX12_sums_11 : decode cX12_sums 11 = .ok (.bipush 21, 2) := by decide +kernel
theorem dX12_sums_13 : decode cX12_sums 13 = .ok (.if_icmp .ne 19, 3) := by decide +kernel
theorem dX12_sums_16 : decode cX12_sums 16 = .ok (.aload_n 0, 1) := by decide +kernel
theorem dX12_sums_17 : decode cX12_sums 17 = .ok (.getfield 57, 3) := by decide +kernel
theorem dX12_sums_20 : decode cX12_sums 20 = .ok (.iload_n 1, 1) := by decide +kernel
theorem dX12_sums_21 : decode cX12_sums 21 = .ok (.iaload, 1) := by decide +kernel
theorem dX12_sums_22 : decode cX12_sums 22 = .ok (.aload_n 0, 1) := by decide +kernel
theorem dX12_sums_23 : decode cX12_sums 23 = .ok (.getfield 63, 3) := by decide +kernel
theorem dX12_sums_26 : decode cX12_sums 26 = .ok (.iload_n 1, 1) := by decide +kernel
theorem dX12_sums_27 : decode cX12_sums 27 = .ok (.iaload, 1) := by decide +kernel
theorem dX12_sums_28 : decode cX12_sums 28 = .ok (.isub, 1) := by decide +kernel
theorem dX12_sums_29 : decode cX12_sums 29 = .ok (.goto 16, 3) := by decide +kernel
theorem dX12_sums_32 : decode cX12_sums 32 = .ok (.aload_n 0, 1) := by decide +kernel
theorem dX12_sums_33 : decode cX12_sums 33 = .ok (.getfield 57, 3) := by decide +kernel
theorem dX12_sums_36 : decode cX12_sums 36 = .ok (.iload_n 1, 1) := by decide +kernel
theorem dX12_sums_37 : decode cX12_sums 37 = .ok (.iaload, 1) := by decide +kernel
theorem dX12_sums_38 : decode cX12_sums 38 = .ok (.aload_n 0, 1) := by decide +kernel
theorem dX12_sums_39 : decode cX12_sums 39 = .ok (.getfield 63, 3) := by decide +kernel
theorem dX12_sums_42 : decode cX12_sums 42 = .ok (.iload_n 1, 1) := by decide +kernel
theorem dX12_sums_43 : decode cX12_sums 43 = .ok (.iaload, 1) := by decide +kernel
theorem dX12_sums_44 : decode cX12_sums 44 = .ok (.iadd, 1) := by decide +kernel
theorem dX12_sums_45 : decode cX12_sums 45 = .ok (.iastore, 1) := by decide +kernel
theorem dX12_sums_46 : decode cX12_sums 46 = .ok (.aload_n 0, 1) := by decide +kernel
theorem dX12_sums_47 : decode cX12_sums 47 = .ok (.getfield 66, 3) := by decide +kernel
theorem dX12_sums_50 : decode cX12_sums 50 = .ok (.iload_n 1, 1) := by decide +kernel
theorem dX12_sums_51 : decode cX12_sums 51 = .ok (.iconst 0, 1) := by decide +kernel
theorem dX12_sums_52 : decode cX12_sums 52 = .ok (.iastore, 1) := by decide +kernel
theorem dX12_sums_53 : decode cX12_sums 53 = .ok (.return_, 1) := by decide +kernel
def F_X12_sums_b45 (x1 : Int32) (s0 : Int32) (s1 : Int32) (h : PH) : Option PH :=
  if inb s1 7 = true then
  hb (hs h 118 s1.toNatClampNeg s0) fun h2 =>
  if inb x1 7 = true then
  hb (hs h2 121 x1.toNatClampNeg (0 : Int32)) fun h4 =>
  some h4
  else none
  else none
set_option maxRecDepth 20000 in
set_option maxHeartbeats 4000000 in
theorem T_X12_sums_b45 {X : CT} (C : CX X 154 cX12_sums 2 RX12 none 0 0) {h0 : PH} : ∀ (x1 : Int32) (s0 : Int32) (s1 : Int32) (h : PH), F_X12_sums_b45 x1 s0 s1 h = some h0 → V X (QV X h0) h 45 [some (.ref 103), some (.int x1)] [.int s0, .int s1, .ref 118] := by
  intro x1 s0 s1 h hyp
  unfold F_X12_sums_b45 at hyp
  obtain ⟨g1, hyp⟩ := gd_n hyp
  obtain ⟨h2, eh2, hyp⟩ := hb_n hyp
  refine V_iast (pc := 45) C dX12_sums_45 ak_118 g1 eh2 ?_
  refine V_aload_n (pc := 46) C dX12_sums_46 rfl ?_
  refine V_getR (pc := 47) C dX12_sums_47 lf_X12_66 fk_103_30 ?_
  refine V_iload_n (pc := 50) C dX12_sums_50 rfl ?_
  refine V_iconst (pc := 51) C dX12_sums_51 (v := 0) (by decide) ?_
  obtain ⟨g3, hyp⟩ := gd_n hyp
  obtain ⟨h4, eh4, hyp⟩ := hb_n hyp
  refine V_iast (pc := 52) C dX12_sums_52 ak_121 g3 eh4 ?_
  cases hyp
  exact V_vret C dX12_sums_53
def F_X12_sums (a1 : Int32) (h : PH) : Option PH :=
  if inb a1 7 = true then
  if (h.1 119 a1.toNatClampNeg) = (21 : Int32) then
    if inb a1 7 = true then
    F_X12_sums_b45 a1 ((h.1 118 a1.toNatClampNeg) - (h.1 120 a1.toNatClampNeg)) a1 h
    else none
  else
    if inb a1 7 = true then
    F_X12_sums_b45 a1 ((h.1 118 a1.toNatClampNeg) + (h.1 120 a1.toNatClampNeg)) a1 h
    else none
  else none
set_option maxRecDepth 20000 in
set_option maxHeartbeats 4000000 in
theorem M_X12_sums (E : EV) {a1 : Int32} {h h2 : PH} (hyp : F_X12_sums a1 h = some h2) : MV E 154 yX12_sums cX12_sums 2 none 0 0 [.ref 103, .int a1] h h2 := by
  refine MV.of 0 (by decide) rfl (fun X e1 C => ?_)
  subst e1
  replace C : CX X 154 cX12_sums 2 RX12 none 0 0 := C
  show V X _ h 0 [some (.ref 103), some (.int a1)] []
  unfold F_X12_sums at hyp
  refine V_aload_n (pc := 0) C dX12_sums_0 rfl ?_
  refine V_getR (pc := 1) C dX12_sums_1 lf_X12_57 fk_103_27 ?_
  refine V_iload_n (pc := 4) C dX12_sums_4 rfl ?_
  refine V_aload_n (pc := 5) C dX12_sums_5 rfl ?_
  refine V_getR (pc := 6) C dX12_sums_6 lf_X12_60 fk_103_28 ?_
  refine V_iload_n (pc := 9) C dX12_sums_9 rfl ?_
  obtain ⟨g1, hyp⟩ := gd_n hyp
  refine V_iald (pc := 10) C dX12_sums_10 ak_119 g1 ?_
  refine V_bipush (pc := 11) C dX12_sums_11 (v := 21) (by decide) ?_
  refine V_icmp_ne (pc := 13) C dX12_sums_13 (tgt := 32) (by decide) (fun q2 => ?_) (fun q2 => ?_)
  · replace hyp := (if_neg q2).symm.trans hyp
    refine V_aload_n (pc := 32) C dX12_sums_32 rfl ?_
    refine V_getR (pc := 33) C dX12_sums_33 lf_X12_57 fk_103_27 ?_
    refine V_iload_n (pc := 36) C dX12_sums_36 rfl ?_
    obtain ⟨g3, hyp⟩ := gd_n hyp
    refine V_iald (pc := 37) C dX12_sums_37 ak_118 g3 ?_
    refine V_aload_n (pc := 38) C dX12_sums_38 rfl ?_
    refine V_getR (pc := 39) C dX12_sums_39 lf_X12_63 fk_103_29 ?_
    refine V_iload_n (pc := 42) C dX12_sums_42 rfl ?_
    refine V_iald (pc := 43) C dX12_sums_43 ak_120 g3 ?_
    refine V_iadd (pc := 44) C dX12_sums_44 ?_
    refine V_weak (lv' := [some (.ref 103), some (.int a1)]) (lvle_s (lvle_s lvle_0)) ?_
    exact (T_X12_sums_b45 C) a1 ((h.1 118 a1.toNatClampNeg) + (h.1 120 a1.toNatClampNeg)) a1 h hyp
  · replace hyp := (if_pos q2).symm.trans hyp
    refine V_aload_n (pc := 16) C dX12_sums_16 rfl ?_
    refine V_getR (pc := 17) C dX12_sums_17 lf_X12_57 fk_103_27 ?_
    refine V_iload_n (pc := 20) C dX12_sums_20 rfl ?_
    obtain ⟨g4, hyp⟩ := gd_n hyp
    refine V_iald (pc := 21) C dX12_sums_21 ak_118 g4 ?_
    refine V_aload_n (pc := 22) C dX12_sums_22 rfl ?_
    refine V_getR (pc := 23) C dX12_sums_23 lf_X12_63 fk_103_29 ?_
    refine V_iload_n (pc := 26) C dX12_sums_26 rfl ?_
    refine V_iald (pc := 27) C dX12_sums_27 ak_120 g4 ?_
    refine V_isub (pc := 28) C dX12_sums_28 ?_
    refine V_goto (pc := 29) C dX12_sums_29 (tgt := 45) (by decide) ?_
    refine V_weak (lv' := [some (.ref 103), some (.int a1)]) (lvle_s (lvle_s lvle_0)) ?_
    exact (T_X12_sums_b45 C) a1 ((h.1 118 a1.toNatClampNeg) - (h.1 120 a1.toNatClampNeg)) a1 h hyp
theorem dX12_holds_0 : decode cX12_holds 0 = .ok (.aload_n 0, 1) := by decide +kernel
theorem dX12_holds_1 : decode cX12_holds 1 = .ok (.iload_n 1, 1) := by decide +kernel
theorem dX12_holds_2 : decode cX12_holds 2 = .ok (.invokevirtual 339, 3) := by decide +kernel
theorem dX12_holds_5 : decode cX12_holds 5 = .ok (.aload_n 0, 1) := by decide +kernel
theorem dX12_holds_6 : decode cX12_holds 6 = .ok (.getfield 57, 3) := by decide +kernel
theorem dX12_holds_9 : decode cX12_holds 9 = .ok (.iload_n 1, 1) := by decide +kernel
theorem dX12_holds_10 : decode cX12_holds 10 = .ok (.iaload, 1) := by decide +kernel
theorem dX12_holds_11 : decode cX12_holds 11 = .ok (.istore_n 2, 1) := by decide +kernel
theorem dX12_holds_12 : decode cX12_holds 12 = .ok (.aload_n 0, 1) := by decide +kernel
theorem dX12_holds_13 : decode cX12_holds 13 = .ok (.getfield 54, 3) := by decide +kernel
theorem dX12_holds_16 : decode cX12_holds 16 = .ok (.iload_n 1, 1) := by decide +kernel
theorem dX12_holds_17 : decode cX12_holds 17 = .ok (.iaload, 1) := by decide +kernel
theorem dX12_holds_18 : decode cX12_holds 18 = .ok (.bipush 24, 2) := by decide +kernel
theorem dX12_holds_20 : decode cX12_holds 20 = .ok (.if_icmp .ne 24, 3) := by decide +kernel
theorem dX12_holds_23 : decode cX12_holds 23 = .ok (.aload_n 0, 1) := by decide +kernel
theorem dX12_holds_24 : decode cX12_holds 24 = .ok (.getfield 51, 3) := by decide +kernel
theorem dX12_holds_27 : decode cX12_holds 27 = .ok (.iload_n 1, 1) := by decide +kernel
theorem dX12_holds_28 : decode cX12_holds 28 = .ok (.iaload, 1) := by decide +kernel
theorem dX12_holds_29 : decode cX12_holds 29 = .ok (.aload_n 0, 1) := by decide +kernel
theorem dX12_holds_30 : decode cX12_holds 30 = .ok (.getfield 57, 3) := by decide +kernel
theorem dX12_holds_33 : decode cX12_holds 33 = .ok (.iload_n 1, 1) := by decide +kernel
theorem dX12_holds_34 : decode cX12_holds 34 = .ok (.iaload, 1) := by decide +kernel
theorem dX12_holds_35 : decode cX12_holds 35 = .ok (.if_icmp .ge 7, 3) := by decide +kernel
theorem dX12_holds_38 : decode cX12_holds 38 = .ok (.iconst 1, 1) := by decide +kernel
theorem dX12_holds_39 : decode cX12_holds 39 = .ok (.goto 4, 3) := by decide +kernel
theorem dX12_holds_42 : decode cX12_holds 42 = .ok (.iconst 0, 1) := by decide +kernel
theorem dX12_holds_43 : decode cX12_holds 43 = .ok (.istore_n 2, 1) := by decide +kernel
theorem dX12_holds_44 : decode cX12_holds 44 = .ok (.aload_n 0, 1) := by decide +kernel
theorem dX12_holds_45 : decode cX12_holds 45 = .ok (.getfield 54, 3) := by decide +kernel
theorem dX12_holds_48 : decode cX12_holds 48 = .ok (.iload_n 1, 1) := by decide +kernel
theorem dX12_holds_49 : decode cX12_holds 49 = .ok (.iaload, 1) := by decide +kernel
theorem dX12_holds_50 : decode cX12_holds 50 = .ok (.bipush 25, 2) := by decide +kernel
theorem dX12_holds_52 : decode cX12_holds 52 = .ok (.if_icmp .ne 24, 3) := by decide +kernel
theorem dX12_holds_55 : decode cX12_holds 55 = .ok (.aload_n 0, 1) := by decide +kernel
theorem dX12_holds_56 : decode cX12_holds 56 = .ok (.getfield 51, 3) := by decide +kernel
theorem dX12_holds_59 : decode cX12_holds 59 = .ok (.iload_n 1, 1) := by decide +kernel
theorem dX12_holds_60 : decode cX12_holds 60 = .ok (.iaload, 1) := by decide +kernel
theorem dX12_holds_61 : decode cX12_holds 61 = .ok (.aload_n 0, 1) := by decide +kernel
theorem dX12_holds_62 : decode cX12_holds 62 = .ok (.getfield 57, 3) := by decide +kernel
theorem dX12_holds_65 : decode cX12_holds 65 = .ok (.iload_n 1, 1) := by decide +kernel
theorem dX12_holds_66 : decode cX12_holds 66 = .ok (.iaload, 1) := by decide +kernel
theorem dX12_holds_67 : decode cX12_holds 67 = .ok (.if_icmp .ne 7, 3) := by decide +kernel
theorem dX12_holds_70 : decode cX12_holds 70 = .ok (.iconst 1, 1) := by decide +kernel
theorem dX12_holds_71 : decode cX12_holds 71 = .ok (.goto 4, 3) := by decide +kernel
theorem dX12_holds_74 : decode cX12_holds 74 = .ok (.iconst 0, 1) := by decide +kernel
theorem dX12_holds_75 : decode cX12_holds 75 = .ok (.istore_n 2, 1) := by decide +kernel
theorem dX12_holds_76 : decode cX12_holds 76 = .ok (.aload_n 0, 1) := by decide +kernel
theorem dX12_holds_77 : decode cX12_holds 77 = .ok (.getfield 48, 3) := by decide +kernel
theorem dX12_holds_80 : decode cX12_holds 80 = .ok (.iload_n 1, 1) := by decide +kernel
theorem dX12_holds_81 : decode cX12_holds 81 = .ok (.iaload, 1) := by decide +kernel
theorem dX12_holds_82 : decode cX12_holds 82 = .ok (.bipush 26, 2) := by decide +kernel
theorem dX12_holds_84 : decode cX12_holds 84 = .ok (.if_icmp .ne 22, 3) := by decide +kernel
theorem dX12_holds_87 : decode cX12_holds 87 = .ok (.aload_n 0, 1) := by decide +kernel
theorem dX12_holds_88 : decode cX12_holds 88 = .ok (.getfield 45, 3) := by decide +kernel
theorem dX12_holds_91 : decode cX12_holds 91 = .ok (.iload_n 1, 1) := by decide +kernel
theorem dX12_holds_92 : decode cX12_holds 92 = .ok (.iaload, 1) := by decide +kernel
theorem dX12_holds_93 : decode cX12_holds 93 = .ok (.ifCond .eq 11, 3) := by decide +kernel
theorem dX12_holds_96 : decode cX12_holds 96 = .ok (.iload_n 2, 1) := by decide +kernel
theorem dX12_holds_97 : decode cX12_holds 97 = .ok (.ifCond .eq 7, 3) := by decide +kernel
theorem dX12_holds_100 : decode cX12_holds 100 = .ok (.iconst 1, 1) := by decide +kernel
theorem dX12_holds_101 : decode cX12_holds 101 = .ok (.goto 4, 3) := by decide +kernel
theorem dX12_holds_104 : decode cX12_holds 104 = .ok (.iconst 0, 1) := by decide +kernel
theorem dX12_holds_105 : decode cX12_holds 105 = .ok (.istore_n 2, 1) := by decide +kernel
theorem dX12_holds_106 : decode cX12_holds 106 = .ok (.aload_n 0, 1) := by decide +kernel
theorem dX12_holds_107 : decode cX12_holds 107 = .ok (.getfield 48, 3) := by decide +kernel
theorem dX12_holds_110 : decode cX12_holds 110 = .ok (.iload_n 1, 1) := by decide +kernel
theorem dX12_holds_111 : decode cX12_holds 111 = .ok (.iaload, 1) := by decide +kernel
theorem dX12_holds_112 : decode cX12_holds 112 = .ok (.bipush 27, 2) := by decide +kernel
theorem dX12_holds_114 : decode cX12_holds 114 = .ok (.if_icmp .ne 22, 3) := by decide +kernel
theorem dX12_holds_117 : decode cX12_holds 117 = .ok (.aload_n 0, 1) := by decide +kernel
theorem dX12_holds_118 : decode cX12_holds 118 = .ok (.getfield 45, 3) := by decide +kernel
theorem dX12_holds_121 : decode cX12_holds 121 = .ok (.iload_n 1, 1) := by decide +kernel
theorem dX12_holds_122 : decode cX12_holds 122 = .ok (.iaload, 1) := by decide +kernel
theorem dX12_holds_123 : decode cX12_holds 123 = .ok (.ifCond .ne 7, 3) := by decide +kernel
theorem dX12_holds_126 : decode cX12_holds 126 = .ok (.iload_n 2, 1) := by decide +kernel
theorem dX12_holds_127 : decode cX12_holds 127 = .ok (.ifCond .eq 7, 3) := by decide +kernel
theorem dX12_holds_130 : decode cX12_holds 130 = .ok (.iconst 1, 1) := by decide +kernel
theorem dX12_holds_131 : decode cX12_holds 131 = .ok (.goto 4, 3) := by decide +kernel
theorem dX12_holds_134 : decode cX12_holds 134 = .ok (.iconst 0, 1) := by decide +kernel
theorem dX12_holds_135 : decode cX12_holds 135 = .ok (.istore_n 2, 1) := by decide +kernel
theorem dX12_holds_136 : decode cX12_holds 136 = .ok (.aload_n 0, 1) := by decide +kernel
theorem dX12_holds_137 : decode cX12_holds 137 = .ok (.getfield 45, 3) := by decide +kernel
theorem dX12_holds_140 : decode cX12_holds 140 = .ok (.iload_n 1, 1) := by decide +kernel
theorem dX12_holds_141 : decode cX12_holds 141 = .ok (.iload_n 2, 1) := by decide +kernel
theorem dX12_holds_142 : decode cX12_holds 142 = .ok (.iastore, 1) := by decide +kernel
theorem dX12_holds_143 : decode cX12_holds 143 = .ok (.aload_n 0, 1) := by decide +kernel
theorem dX12_holds_144 : decode cX12_holds 144 = .ok (.getfield 54, 3) := by decide +kernel
theorem dX12_holds_147 : decode cX12_holds 147 = .ok (.iload_n 1, 1) := by decide +kernel
theorem dX12_holds_148 : decode cX12_holds 148 = .ok (.iconst 0, 1) := by decide +kernel
theorem dX12_holds_149 : decode cX12_holds 149 = .ok (.iastore, 1) := by decide +kernel
theorem dX12_holds_150 : decode cX12_holds 150 = .ok (.aload_n 0, 1) := by decide +kernel
theorem dX12_holds_151 : decode cX12_holds 151 = .ok (.getfield 57, 3) := by decide +kernel
theorem dX12_holds_154 : decode cX12_holds 154 = .ok (.iload_n 1, 1) := by decide +kernel
theorem dX12_holds_155 : decode cX12_holds 155 = .ok (.iconst 0, 1) := by decide +kernel
theorem dX12_holds_156 : decode cX12_holds 156 = .ok (.iastore, 1) := by decide +kernel
theorem dX12_holds_157 : decode cX12_holds 157 = .ok (.aload_n 0, 1) := by decide +kernel
theorem dX12_holds_158 : decode cX12_holds 158 = .ok (.getfield 60, 3) := by decide +kernel
theorem dX12_holds_161 : decode cX12_holds 161 = .ok (.iload_n 1, 1) := by decide +kernel
theorem dX12_holds_162 : decode cX12_holds 162 = .ok (.bipush 20, 2) := by decide +kernel
theorem dX12_holds_164 : decode cX12_holds 164 = .ok (.iastore, 1) := by decide +kernel
theorem dX12_holds_165 : decode cX12_holds 165 = .ok (.return_, 1) := by decide +kernel
def F_X12_holds_b136 (x1 : Int32) (x2 : Int32) (h : PH) : Option PH :=
  if inb x1 7 = true then
  hb (hs h 114 x1.toNatClampNeg x2) fun h2 =>
  hb (hs h2 117 x1.toNatClampNeg (0 : Int32)) fun h3 =>
  hb (hs h3 118 x1.toNatClampNeg (0 : Int32)) fun h4 =>
  hb (hs h4 119 x1.toNatClampNeg (20 : Int32)) fun h5 =>
  some h5
  else none
set_option maxRecDepth 20000 in
set_option maxHeartbeats 4000000 in
theorem T_X12_holds_b136 {X : CT} (C : CX X 154 cX12_holds 3 RX12 none 1 21) {h0 : PH} : ∀ (x1 : Int32) (x2 : Int32) (h : PH), F_X12_holds_b136 x1 x2 h = some h0 → V X (QV X h0) h 136 [some (.ref 103), some (.int x1), some (.int x2)] [] := by
  intro x1 x2 h hyp
  unfold F_X12_holds_b136 at hyp
  refine V_aload_n (pc := 136) C dX12_holds_136 rfl ?_
  refine V_getR (pc := 137) C dX12_holds_137 lf_X12_45 fk_103_23 ?_
  refine V_iload_n (pc := 140) C dX12_holds_140 rfl ?_
  refine V_iload_n (pc := 141) C dX12_holds_141 rfl ?_
  obtain ⟨g1, hyp⟩ := gd_n hyp
  obtain ⟨h2, eh2, hyp⟩ := hb_n hyp
  refine V_iast (pc := 142) C dX12_holds_142 ak_114 g1 eh2 ?_
  refine V_aload_n (pc := 143) C dX12_holds_143 rfl ?_
  refine V_getR (pc := 144) C dX12_holds_144 lf_X12_54 fk_103_26 ?_
  refine V_iload_n (pc := 147) C dX12_holds_147 rfl ?_
  refine V_iconst (pc := 148) C dX12_holds_148 (v := 0) (by decide) ?_
  obtain ⟨h3, eh3, hyp⟩ := hb_n hyp
  refine V_iast (pc := 149) C dX12_holds_149 ak_117 g1 eh3 ?_
  refine V_aload_n (pc := 150) C dX12_holds_150 rfl ?_
  refine V_getR (pc := 151) C dX12_holds_151 lf_X12_57 fk_103_27 ?_
  refine V_iload_n (pc := 154) C dX12_holds_154 rfl ?_
  refine V_iconst (pc := 155) C dX12_holds_155 (v := 0) (by decide) ?_
  obtain ⟨h4, eh4, hyp⟩ := hb_n hyp
  refine V_iast (pc := 156) C dX12_holds_156 ak_118 g1 eh4 ?_
  refine V_aload_n (pc := 157) C dX12_holds_157 rfl ?_
  refine V_getR (pc := 158) C dX12_holds_158 lf_X12_60 fk_103_28 ?_
  refine V_iload_n (pc := 161) C dX12_holds_161 rfl ?_
  refine V_bipush (pc := 162) C dX12_holds_162 (v := 20) (by decide) ?_
  obtain ⟨h5, eh5, hyp⟩ := hb_n hyp
  refine V_iast (pc := 164) C dX12_holds_164 ak_119 g1 eh5 ?_
  cases hyp
  exact V_vret C dX12_holds_165
def F_X12_holds_b135 (x1 : Int32) (s0 : Int32) (h : PH) : Option PH :=
  F_X12_holds_b136 x1 s0 h
set_option maxRecDepth 20000 in
set_option maxHeartbeats 4000000 in
theorem T_X12_holds_b135 {X : CT} (C : CX X 154 cX12_holds 3 RX12 none 1 21) {h0 : PH} : ∀ (x1 : Int32) (s0 : Int32) (h : PH), F_X12_holds_b135 x1 s0 h = some h0 → V X (QV X h0) h 135 [some (.ref 103), some (.int x1), none] [.int s0] := by
  intro x1 s0 h hyp
  unfold F_X12_holds_b135 at hyp
  refine V_istore_n (pc := 135) C dX12_holds_135 (by decide) rfl ?_
  refine V_weak (lv' := [some (.ref 103), some (.int x1), some (.int s0)]) (lvle_s (lvle_s (lvle_s lvle_0))) ?_
  exact (T_X12_holds_b136 C) x1 s0 h hyp
def F_X12_holds_b130 (x1 : Int32) (h : PH) : Option PH :=
  F_X12_holds_b135 x1 (1 : Int32) h
set_option maxRecDepth 20000 in
set_option maxHeartbeats 4000000 in
theorem T_X12_holds_b130 {X : CT} (C : CX X 154 cX12_holds 3 RX12 none 1 21) {h0 : PH} : ∀ (x1 : Int32) (h : PH), F_X12_holds_b130 x1 h = some h0 → V X (QV X h0) h 130 [some (.ref 103), some (.int x1), none] [] := by
  intro x1 h hyp
  unfold F_X12_holds_b130 at hyp
  refine V_iconst (pc := 130) C dX12_holds_130 (v := 1) (by decide) ?_
  refine V_goto (pc := 131) C dX12_holds_131 (tgt := 135) (by decide) ?_
  refine V_weak (lv' := [some (.ref 103), some (.int x1), none]) (lvle_s (lvle_s (lvle_n lvle_0))) ?_
  exact (T_X12_holds_b135 C) x1 (1 : Int32) h hyp
def F_X12_holds_b106 (x1 : Int32) (x2 : Int32) (h : PH) : Option PH :=
  if inb x1 7 = true then
  if (h.1 115 x1.toNatClampNeg) = (27 : Int32) then
    if inb x1 7 = true then
    if (h.1 114 x1.toNatClampNeg) = 0 then
      if x2 = 0 then
        F_X12_holds_b135 x1 (0 : Int32) h
      else
        F_X12_holds_b130 x1 h
    else
      F_X12_holds_b130 x1 h
    else none
  else
    F_X12_holds_b136 x1 x2 h
  else none
set_option maxRecDepth 20000 in
set_option maxHeartbeats 4000000 in
theorem T_X12_holds_b106 {X : CT} (C : CX X 154 cX12_holds 3 RX12 none 1 21) {h0 : PH} : ∀ (x1 : Int32) (x2 : Int32) (h : PH), F_X12_holds_b106 x1 x2 h = some h0 → V X (QV X h0) h 106 [some (.ref 103), some (.int x1), some (.int x2)] [] := by
  intro x1 x2 h hyp
  unfold F_X12_holds_b106 at hyp
  refine V_aload_n (pc := 106) C dX12_holds_106 rfl ?_
  refine V_getR (pc := 107) C dX12_holds_107 lf_X12_48 fk_103_24 ?_
  refine V_iload_n (pc := 110) C dX12_holds_110 rfl ?_
  obtain ⟨g1, hyp⟩ := gd_n hyp
  refine V_iald (pc := 111) C dX12_holds_111 ak_115 g1 ?_
  refine V_bipush (pc := 112) C dX12_holds_112 (v := 27) (by decide) ?_
  refine V_icmp_ne (pc := 114) C dX12_holds_114 (tgt := 136) (by decide) (fun q2 => ?_) (fun q2 => ?_)
  · replace hyp := (if_neg q2).symm.trans hyp
    refine V_weak (lv' := [some (.ref 103), some (.int x1), some (.int x2)]) (lvle_s (lvle_s (lvle_s lvle_0))) ?_
    exact (T_X12_holds_b136 C) x1 x2 h hyp
  · replace hyp := (if_pos q2).symm.trans hyp
    refine V_aload_n (pc := 117) C dX12_holds_117 rfl ?_
    refine V_getR (pc := 118) C dX12_holds_118 lf_X12_45 fk_103_23 ?_
    refine V_iload_n (pc := 121) C dX12_holds_121 rfl ?_
    obtain ⟨g3, hyp⟩ := gd_n hyp
    refine V_iald (pc := 122) C dX12_holds_122 ak_114 g3 ?_
    refine V_if_ne (pc := 123) C dX12_holds_123 (tgt := 130) (by decide) (fun q4 => ?_) (fun q4 => ?_)
    · replace hyp := (if_neg q4).symm.trans hyp
      refine V_weak (lv' := [some (.ref 103), some (.int x1), none]) (lvle_s (lvle_s (lvle_n lvle_0))) ?_
      exact (T_X12_holds_b130 C) x1 h hyp
    · replace hyp := (if_pos q4).symm.trans hyp
      refine V_iload_n (pc := 126) C dX12_holds_126 rfl ?_
      refine V_if_eq (pc := 127) C dX12_holds_127 (tgt := 134) (by decide) (fun q5 => ?_) (fun q5 => ?_)
      · replace hyp := (if_pos q5).symm.trans hyp
        refine V_iconst (pc := 134) C dX12_holds_134 (v := 0) (by decide) ?_
        refine V_weak (lv' := [some (.ref 103), some (.int x1), none]) (lvle_s (lvle_s (lvle_n lvle_0))) ?_
        exact (T_X12_holds_b135 C) x1 (0 : Int32) h hyp
      · replace hyp := (if_neg q5).symm.trans hyp
        refine V_weak (lv' := [some (.ref 103), some (.int x1), none]) (lvle_s (lvle_s (lvle_n lvle_0))) ?_
        exact (T_X12_holds_b130 C) x1 h hyp
def F_X12_holds_b105 (x1 : Int32) (s0 : Int32) (h : PH) : Option PH :=
  F_X12_holds_b106 x1 s0 h
set_option maxRecDepth 20000 in
set_option maxHeartbeats 4000000 in
theorem T_X12_holds_b105 {X : CT} (C : CX X 154 cX12_holds 3 RX12 none 1 21) {h0 : PH} : ∀ (x1 : Int32) (s0 : Int32) (h : PH), F_X12_holds_b105 x1 s0 h = some h0 → V X (QV X h0) h 105 [some (.ref 103), some (.int x1), none] [.int s0] := by
  intro x1 s0 h hyp
  unfold F_X12_holds_b105 at hyp
  refine V_istore_n (pc := 105) C dX12_holds_105 (by decide) rfl ?_
  refine V_weak (lv' := [some (.ref 103), some (.int x1), some (.int s0)]) (lvle_s (lvle_s (lvle_s lvle_0))) ?_
  exact (T_X12_holds_b106 C) x1 s0 h hyp
def F_X12_holds_b104 (x1 : Int32) (h : PH) : Option PH :=
  F_X12_holds_b105 x1 (0 : Int32) h
set_option maxRecDepth 20000 in
set_option maxHeartbeats 4000000 in
theorem T_X12_holds_b104 {X : CT} (C : CX X 154 cX12_holds 3 RX12 none 1 21) {h0 : PH} : ∀ (x1 : Int32) (h : PH), F_X12_holds_b104 x1 h = some h0 → V X (QV X h0) h 104 [some (.ref 103), some (.int x1), none] [] := by
  intro x1 h hyp
  unfold F_X12_holds_b104 at hyp
  refine V_iconst (pc := 104) C dX12_holds_104 (v := 0) (by decide) ?_
  refine V_weak (lv' := [some (.ref 103), some (.int x1), none]) (lvle_s (lvle_s (lvle_n lvle_0))) ?_
  exact (T_X12_holds_b105 C) x1 (0 : Int32) h hyp
def F_X12_holds_b76 (x1 : Int32) (x2 : Int32) (h : PH) : Option PH :=
  if inb x1 7 = true then
  if (h.1 115 x1.toNatClampNeg) = (26 : Int32) then
    if inb x1 7 = true then
    if (h.1 114 x1.toNatClampNeg) = 0 then
      F_X12_holds_b104 x1 h
    else
      if x2 = 0 then
        F_X12_holds_b104 x1 h
      else
        F_X12_holds_b105 x1 (1 : Int32) h
    else none
  else
    F_X12_holds_b106 x1 x2 h
  else none
set_option maxRecDepth 20000 in
set_option maxHeartbeats 4000000 in
theorem T_X12_holds_b76 {X : CT} (C : CX X 154 cX12_holds 3 RX12 none 1 21) {h0 : PH} : ∀ (x1 : Int32) (x2 : Int32) (h : PH), F_X12_holds_b76 x1 x2 h = some h0 → V X (QV X h0) h 76 [some (.ref 103), some (.int x1), some (.int x2)] [] := by
  intro x1 x2 h hyp
  unfold F_X12_holds_b76 at hyp
  refine V_aload_n (pc := 76) C dX12_holds_76 rfl ?_
  refine V_getR (pc := 77) C dX12_holds_77 lf_X12_48 fk_103_24 ?_
  refine V_iload_n (pc := 80) C dX12_holds_80 rfl ?_
  obtain ⟨g1, hyp⟩ := gd_n hyp
  refine V_iald (pc := 81) C dX12_holds_81 ak_115 g1 ?_
  refine V_bipush (pc := 82) C dX12_holds_82 (v := 26) (by decide) ?_
  refine V_icmp_ne (pc := 84) C dX12_holds_84 (tgt := 106) (by decide) (fun q2 => ?_) (fun q2 => ?_)
  · replace hyp := (if_neg q2).symm.trans hyp
    refine V_weak (lv' := [some (.ref 103), some (.int x1), some (.int x2)]) (lvle_s (lvle_s (lvle_s lvle_0))) ?_
    exact (T_X12_holds_b106 C) x1 x2 h hyp
  · replace hyp := (if_pos q2).symm.trans hyp
    refine V_aload_n (pc := 87) C dX12_holds_87 rfl ?_
    refine V_getR (pc := 88) C dX12_holds_88 lf_X12_45 fk_103_23 ?_
    refine V_iload_n (pc := 91) C dX12_holds_91 rfl ?_
    obtain ⟨g3, hyp⟩ := gd_n hyp
    refine V_iald (pc := 92) C dX12_holds_92 ak_114 g3 ?_
    refine V_if_eq (pc := 93) C dX12_holds_93 (tgt := 104) (by decide) (fun q4 => ?_) (fun q4 => ?_)
    · replace hyp := (if_pos q4).symm.trans hyp
      refine V_weak (lv' := [some (.ref 103), some (.int x1), none]) (lvle_s (lvle_s (lvle_n lvle_0))) ?_
      exact (T_X12_holds_b104 C) x1 h hyp
    · replace hyp := (if_neg q4).symm.trans hyp
      refine V_iload_n (pc := 96) C dX12_holds_96 rfl ?_
      refine V_if_eq (pc := 97) C dX12_holds_97 (tgt := 104) (by decide) (fun q5 => ?_) (fun q5 => ?_)
      · replace hyp := (if_pos q5).symm.trans hyp
        refine V_weak (lv' := [some (.ref 103), some (.int x1), none]) (lvle_s (lvle_s (lvle_n lvle_0))) ?_
        exact (T_X12_holds_b104 C) x1 h hyp
      · replace hyp := (if_neg q5).symm.trans hyp
        refine V_iconst (pc := 100) C dX12_holds_100 (v := 1) (by decide) ?_
        refine V_goto (pc := 101) C dX12_holds_101 (tgt := 105) (by decide) ?_
        refine V_weak (lv' := [some (.ref 103), some (.int x1), none]) (lvle_s (lvle_s (lvle_n lvle_0))) ?_
        exact (T_X12_holds_b105 C) x1 (1 : Int32) h hyp
def F_X12_holds_b75 (x1 : Int32) (s0 : Int32) (h : PH) : Option PH :=
  F_X12_holds_b76 x1 s0 h
set_option maxRecDepth 20000 in
set_option maxHeartbeats 4000000 in
theorem T_X12_holds_b75 {X : CT} (C : CX X 154 cX12_holds 3 RX12 none 1 21) {h0 : PH} : ∀ (x1 : Int32) (s0 : Int32) (h : PH), F_X12_holds_b75 x1 s0 h = some h0 → V X (QV X h0) h 75 [some (.ref 103), some (.int x1), none] [.int s0] := by
  intro x1 s0 h hyp
  unfold F_X12_holds_b75 at hyp
  refine V_istore_n (pc := 75) C dX12_holds_75 (by decide) rfl ?_
  refine V_weak (lv' := [some (.ref 103), some (.int x1), some (.int s0)]) (lvle_s (lvle_s (lvle_s lvle_0))) ?_
  exact (T_X12_holds_b76 C) x1 s0 h hyp
def F_X12_holds_b44 (x1 : Int32) (x2 : Int32) (h : PH) : Option PH :=
  if inb x1 7 = true then
  if (h.1 117 x1.toNatClampNeg) = (25 : Int32) then
    if inb x1 7 = true then
    if (h.1 116 x1.toNatClampNeg) = (h.1 118 x1.toNatClampNeg) then
      F_X12_holds_b75 x1 (1 : Int32) h
    else
      F_X12_holds_b75 x1 (0 : Int32) h
    else none
  else
    F_X12_holds_b76 x1 x2 h
  else none
set_option maxRecDepth 20000 in
set_option maxHeartbeats 4000000 in
theorem T_X12_holds_b44 {X : CT} (C : CX X 154 cX12_holds 3 RX12 none 1 21) {h0 : PH} : ∀ (x1 : Int32) (x2 : Int32) (h : PH), F_X12_holds_b44 x1 x2 h = some h0 → V X (QV X h0) h 44 [some (.ref 103), some (.int x1), some (.int x2)] [] := by
  intro x1 x2 h hyp
  unfold F_X12_holds_b44 at hyp
  refine V_aload_n (pc := 44) C dX12_holds_44 rfl ?_
  refine V_getR (pc := 45) C dX12_holds_45 lf_X12_54 fk_103_26 ?_
  refine V_iload_n (pc := 48) C dX12_holds_48 rfl ?_
  obtain ⟨g1, hyp⟩ := gd_n hyp
  refine V_iald (pc := 49) C dX12_holds_49 ak_117 g1 ?_
  refine V_bipush (pc := 50) C dX12_holds_50 (v := 25) (by decide) ?_
  refine V_icmp_ne (pc := 52) C dX12_holds_52 (tgt := 76) (by decide) (fun q2 => ?_) (fun q2 => ?_)
  · replace hyp := (if_neg q2).symm.trans hyp
    refine V_weak (lv' := [some (.ref 103), some (.int x1), some (.int x2)]) (lvle_s (lvle_s (lvle_s lvle_0))) ?_
    exact (T_X12_holds_b76 C) x1 x2 h hyp
  · replace hyp := (if_pos q2).symm.trans hyp
    refine V_aload_n (pc := 55) C dX12_holds_55 rfl ?_
    refine V_getR (pc := 56) C dX12_holds_56 lf_X12_51 fk_103_25 ?_
    refine V_iload_n (pc := 59) C dX12_holds_59 rfl ?_
    obtain ⟨g3, hyp⟩ := gd_n hyp
    refine V_iald (pc := 60) C dX12_holds_60 ak_116 g3 ?_
    refine V_aload_n (pc := 61) C dX12_holds_61 rfl ?_
    refine V_getR (pc := 62) C dX12_holds_62 lf_X12_57 fk_103_27 ?_
    refine V_iload_n (pc := 65) C dX12_holds_65 rfl ?_
    refine V_iald (pc := 66) C dX12_holds_66 ak_118 g3 ?_
    refine V_icmp_ne (pc := 67) C dX12_holds_67 (tgt := 74) (by decide) (fun q4 => ?_) (fun q4 => ?_)
    · replace hyp := (if_neg q4).symm.trans hyp
      refine V_iconst (pc := 74) C dX12_holds_74 (v := 0) (by decide) ?_
      refine V_weak (lv' := [some (.ref 103), some (.int x1), none]) (lvle_s (lvle_s (lvle_n lvle_0))) ?_
      exact (T_X12_holds_b75 C) x1 (0 : Int32) h hyp
    · replace hyp := (if_pos q4).symm.trans hyp
      refine V_iconst (pc := 70) C dX12_holds_70 (v := 1) (by decide) ?_
      refine V_goto (pc := 71) C dX12_holds_71 (tgt := 75) (by decide) ?_
      refine V_weak (lv' := [some (.ref 103), some (.int x1), none]) (lvle_s (lvle_s (lvle_n lvle_0))) ?_
      exact (T_X12_holds_b75 C) x1 (1 : Int32) h hyp
def F_X12_holds_b43 (x1 : Int32) (s0 : Int32) (h : PH) : Option PH :=
  F_X12_holds_b44 x1 s0 h
set_option maxRecDepth 20000 in
set_option maxHeartbeats 4000000 in
theorem T_X12_holds_b43 {X : CT} (C : CX X 154 cX12_holds 3 RX12 none 1 21) {h0 : PH} : ∀ (x1 : Int32) (s0 : Int32) (h : PH), F_X12_holds_b43 x1 s0 h = some h0 → V X (QV X h0) h 43 [some (.ref 103), some (.int x1), none] [.int s0] := by
  intro x1 s0 h hyp
  unfold F_X12_holds_b43 at hyp
  refine V_istore_n (pc := 43) C dX12_holds_43 (by decide) rfl ?_
  refine V_weak (lv' := [some (.ref 103), some (.int x1), some (.int s0)]) (lvle_s (lvle_s (lvle_s lvle_0))) ?_
  exact (T_X12_holds_b44 C) x1 s0 h hyp
def F_X12_holds (a1 : Int32) (h : PH) : Option PH :=
  bV (F_X12_sums a1 h) fun h2 =>
  if inb a1 7 = true then
  ib (h2.1 118 a1.toNatClampNeg) fun v4 =>
  if (h2.1 117 a1.toNatClampNeg) = (24 : Int32) then
    if inb a1 7 = true then
    if (h2.1 118 a1.toNatClampNeg) ≤ (h2.1 116 a1.toNatClampNeg) then
      F_X12_holds_b43 a1 (0 : Int32) h2
    else
      F_X12_holds_b43 a1 (1 : Int32) h2
    else none
  else
    F_X12_holds_b44 a1 v4 h2
  else none
set_option maxRecDepth 20000 in
set_option maxHeartbeats 4000000 in
theorem M_X12_holds (E : EV) {a1 : Int32} {h h2 : PH} (hyp : F_X12_holds a1 h = some h2) : MV E 154 yX12_holds cX12_holds 3 none 1 21 [.ref 103, .int a1] h h2 := by
  refine MV.of 1 (by decide) rfl (fun X e1 C => ?_)
  subst e1
  replace C : CX X 154 cX12_holds 3 RX12 none 1 21 := C
  show V X _ h 0 [some (.ref 103), some (.int a1), none] []
  unfold F_X12_holds at hyp
  refine V_aload_n (pc := 0) C dX12_holds_0 rfl ?_
  refine V_iload_n (pc := 1) C dX12_holds_1 rfl ?_
  obtain ⟨h2, eh2, hyp⟩ := bV_n hyp
  refine V_callV (pc := 2) C dX12_holds_2 lm_X12_339 mk_X12_sums ok_103 rfl (M_X12_sums _ eh2) rfl pd_X12_sums (by decide) (by decide) (by decide) (As := [.int a1]) (rest := []) rfl (Nat.le_of_ble_eq_true rfl) ?_
  refine V_aload_n (pc := 5) C dX12_holds_5 rfl ?_
  refine V_getR (pc := 6) C dX12_holds_6 lf_X12_57 fk_103_27 ?_
  refine V_iload_n (pc := 9) C dX12_holds_9 rfl ?_
  obtain ⟨g3, hyp⟩ := gd_n hyp
  refine V_iald (pc := 10) C dX12_holds_10 ak_118 g3 ?_
  obtain ⟨v4, ev4, hyp⟩ := ib_n hyp
  refine V_topI ev4 ?_
  refine V_istore_n (pc := 11) C dX12_holds_11 (by decide) rfl ?_
  refine V_aload_n (pc := 12) C dX12_holds_12 rfl ?_
  refine V_getR (pc := 13) C dX12_holds_13 lf_X12_54 fk_103_26 ?_
  refine V_iload_n (pc := 16) C dX12_holds_16 rfl ?_
  refine V_iald (pc := 17) C dX12_holds_17 ak_117 g3 ?_
  refine V_bipush (pc := 18) C dX12_holds_18 (v := 24) (by decide) ?_
  refine V_icmp_ne (pc := 20) C dX12_holds_20 (tgt := 44) (by decide) (fun q5 => ?_) (fun q5 => ?_)
  · replace hyp := (if_neg q5).symm.trans hyp
    refine V_weak (lv' := [some (.ref 103), some (.int a1), some (.int v4)]) (lvle_s (lvle_s (lvle_s lvle_0))) ?_
    exact (T_X12_holds_b44 C) a1 v4 h2 hyp
  · replace hyp := (if_pos q5).symm.trans hyp
    refine V_aload_n (pc := 23) C dX12_holds_23 rfl ?_
    refine V_getR (pc := 24) C dX12_holds_24 lf_X12_51 fk_103_25 ?_
    refine V_iload_n (pc := 27) C dX12_holds_27 rfl ?_
    obtain ⟨g6, hyp⟩ := gd_n hyp
    refine V_iald (pc := 28) C dX12_holds_28 ak_116 g6 ?_
    refine V_aload_n (pc := 29) C dX12_holds_29 rfl ?_
    refine V_getR (pc := 30) C dX12_holds_30 lf_X12_57 fk_103_27 ?_
    refine V_iload_n (pc := 33) C dX12_holds_33 rfl ?_
    refine V_iald (pc := 34) C dX12_holds_34 ak_118 g6 ?_
    refine V_icmp_ge (pc := 35) C dX12_holds_35 (tgt := 42) (by decide) (fun q7 => ?_) (fun q7 => ?_)
    · replace hyp := (if_pos q7).symm.trans hyp
      refine V_iconst (pc := 42) C dX12_holds_42 (v := 0) (by decide) ?_
      refine V_weak (lv' := [some (.ref 103), some (.int a1), none]) (lvle_s (lvle_s (lvle_n lvle_0))) ?_
      exact (T_X12_holds_b43 C) a1 (0 : Int32) h2 hyp
    · replace hyp := (if_neg q7).symm.trans hyp
      refine V_iconst (pc := 38) C dX12_holds_38 (v := 1) (by decide) ?_
      refine V_goto (pc := 39) C dX12_holds_39 (tgt := 43) (by decide) ?_
      refine V_weak (lv' := [some (.ref 103), some (.int a1), none]) (lvle_s (lvle_s (lvle_n lvle_0))) ?_
      exact (T_X12_holds_b43 C) a1 (1 : Int32) h2 hyp
theorem dX12_worth_0 : decode cX12_worth 0 = .ok (.iconst 0, 1) := by decide +kernel
theorem dX12_worth_1 : decode cX12_worth 1 = .ok (.istore_n 2, 1) := by decide +kernel
theorem dX12_worth_2 : decode cX12_worth 2 = .ok (.aload_n 0, 1) := by decide +kernel
theorem dX12_worth_3 : decode cX12_worth 3 = .ok (.iconst 0, 1) := by decide +kernel
theorem dX12_worth_4 : decode cX12_worth 4 = .ok (.invokevirtual 342, 3) := by decide +kernel
theorem dX12_worth_7 : decode cX12_worth 7 = .ok (.aload_n 0, 1) := by decide +kernel
theorem dX12_worth_8 : decode cX12_worth 8 = .ok (.getfield 21, 3) := by decide +kernel
theorem dX12_worth_11 : decode cX12_worth 11 = .ok (.iload_n 1, 1) := by decide +kernel
theorem dX12_worth_12 : decode cX12_worth 12 = .ok (.iaload, 1) := by decide +kernel
theorem dX12_worth_13 : decode cX12_worth 13 = .ok (.istore_n 3, 1) := by decide +kernel
theorem dX12_worth_14 : decode cX12_worth 14 = .ok (.iload_n 3, 1) := by decide +kernel
theorem dX12_worth_15 : decode cX12_worth 15 = .ok (.aload_n 0, 1) := by decide +kernel
theorem dX12_worth_16 : decode cX12_worth 16 = .ok (.getfield 24, 3) := by decide +kernel
theorem dX12_worth_19 : decode cX12_worth 19 = .ok (.iload_n 1, 1) := by decide +kernel
theorem dX12_worth_20 : decode cX12_worth 20 = .ok (.iaload, 1) := by decide +kernel
theorem dX12_worth_21 : decode cX12_worth 21 = .ok (.if_icmp .ge 321, 3) := by decide +kernel
theorem dX12_worth_24 : decode cX12_worth 24 = .ok (.aload_n 0, 1) := by decide +kernel
theorem dX12_worth_25 : decode cX12_worth 25 = .ok (.getfield 36, 3) := by decide +kernel
theorem dX12_worth_28 : decode cX12_worth 28 = .ok (.iload_n 3, 1) := by decide +kernel
theorem dX12_worth_29 : decode cX12_worth 29 = .ok (.iaload, 1) := by decide +kernel
theorem dX12_worth_30 : decode cX12_worth 30 = .ok (.istore 4, 2) := by decide +kernel
theorem dX12_worth_32 : decode cX12_worth 32 = .ok (.iload 4, 2) := by decide +kernel
theorem dX12_worth_34 : decode cX12_worth 34 = .ok (.bipush 28, 2) := by decide +kernel
theorem dX12_worth_36 : decode cX12_worth 36 = .ok (.if_icmp .eq 10, 3) := by decide +kernel
theorem dX12_worth_39 : decode cX12_worth 39 = .ok (.iload 4, 2) := by decide +kernel
theorem dX12_worth_41 : decode cX12_worth 41 = .ok (.bipush 30, 2) := by decide +kernel
theorem dX12_worth_43 : decode cX12_worth 43 = .ok (.if_icmp .ne 32, 3) := by decide +kernel
theorem dX12_worth_46 : decode cX12_worth 46 = .ok (.iinc 2 1, 3) := by decide +kernel
theorem dX12_worth_49 : decode cX12_worth 49 = .ok (.aload_n 0, 1) := by decide +kernel
theorem dX12_worth_50 : decode cX12_worth 50 = .ok (.getfield 69, 3) := by decide +kernel
theorem dX12_worth_53 : decode cX12_worth 53 = .ok (.iload_n 2, 1) := by decide +kernel
theorem dX12_worth_54 : decode cX12_worth 54 = .ok (.iload 4, 2) := by decide +kernel
theorem dX12_worth_56 : decode cX12_worth 56 = .ok (.bipush 30, 2) := by decide +kernel
theorem dX12_worth_58 : decode cX12_worth 58 = .ok (.if_icmp .ne 7, 3) := by decide +kernel
theorem dX12_worth_61 : decode cX12_worth 61 = .ok (.iconst 1, 1) := by decide +kernel
theorem dX12_worth_62 : decode cX12_worth 62 = .ok (.goto 4, 3) := by decide +kernel
theorem dX12_worth_65 : decode cX12_worth 65 = .ok (.iconst 0, 1) := by decide +kernel
theorem dX12_worth_66 : decode cX12_worth 66 = .ok (.iastore, 1) := by decide +kernel
theorem dX12_worth_67 : decode cX12_worth 67 = .ok (.aload_n 0, 1) := by decide +kernel
theorem dX12_worth_68 : decode cX12_worth 68 = .ok (.iload_n 2, 1) := by decide +kernel
theorem dX12_worth_69 : decode cX12_worth 69 = .ok (.invokevirtual 342, 3) := by decide +kernel
theorem dX12_worth_72 : decode cX12_worth 72 = .ok (.goto 264, 3) := by decide +kernel
theorem dX12_worth_75 : decode cX12_worth 75 = .ok (.iload 4, 2) := by decide +kernel
theorem dX12_worth_77 : decode cX12_worth 77 = .ok (.bipush 20, 2) := by decide +kernel
theorem dX12_worth_79 : decode cX12_worth 79 = .ok (.if_icmp .eq 10, 3) := by decide +kernel
theorem dX12_worth_82 : decode cX12_worth 82 = .ok (.iload 4, 2) := by decide +kernel
theorem dX12_worth_84 : decode cX12_worth 84 = .ok (.bipush 21, 2) := by decide +kernel
theorem dX12_worth_86 : decode cX12_worth 86 = .ok (.if_icmp .ne 19, 3) := by decide +kernel
theorem dX12_worth_89 : decode cX12_worth 89 = .ok (.aload_n 0, 1) := by decide +kernel
theorem dX12_worth_90 : decode cX12_worth 90 = .ok (.iload_n 2, 1) := by decide +kernel
theorem dX12_worth_91 : decode cX12_worth 91 = .ok (.invokevirtual 339, 3) := by decide +kernel
theorem dX12_worth_94 : decode cX12_worth 94 = .ok (.aload_n 0, 1) := by decide +kernel
theorem dX12_worth_95 : decode cX12_worth 95 = .ok (.getfield 60, 3) := by decide +kernel
theorem dX12_worth_98 : decode cX12_worth 98 = .ok (.iload_n 2, 1) := by decide +kernel
theorem dX12_worth_99 : decode cX12_worth 99 = .ok (.iload 4, 2) := by decide +kernel
theorem dX12_worth_101 : decode cX12_worth 101 = .ok (.iastore, 1) := by decide +kernel
theorem dX12_worth_102 : decode cX12_worth 102 = .ok (.goto 234, 3) := by decide +kernel
theorem dX12_worth_105 : decode cX12_worth 105 = .ok (.iload 4, 2) := by decide +kernel
theorem dX12_worth_107 : decode cX12_worth 107 = .ok (.bipush 22, 2) := by decide +kernel
theorem dX12_worth_109 : decode cX12_worth 109 = .ok (.if_icmp .ne 14, 3) := by decide +kernel
theorem dX12_worth_112 : decode cX12_worth 112 = .ok (.aload_n 0, 1) := by decide +kernel
theorem dX12_worth_113 : decode cX12_worth 113 = .ok (.getfield 66, 3) := by decide +kernel
theorem dX12_worth_116 : decode cX12_worth 116 = .ok (.iload_n 2, 1) := by decide +kernel
theorem dX12_worth_117 : decode cX12_worth 117 = .ok (.iload 4, 2) := by decide +kernel
theorem dX12_worth_119 : decode cX12_worth 119 = .ok (.iastore, 1) := by decide +kernel
theorem dX12_worth_120 : decode cX12_worth 120 = .ok (.goto 216, 3) := by decide +kernel
theorem dX12_worth_123 : decode cX12_worth 123 = .ok (.iload 4, 2) := by decide +kernel
theorem dX12_worth_125 : decode cX12_worth 125 = .ok (.bipush 24, 2) := by decide +kernel
theorem dX12_worth_127 : decode cX12_worth 127 = .ok (.if_icmp .eq 10, 3) := by decide +kernel
theorem dX12_worth_130 : decode cX12_worth 130 = .ok (.iload 4, 2) := by decide +kernel
theorem dX12_worth_132 : decode cX12_worth 132 = .ok (.bipush 25, 2) := by decide +kernel
theorem dX12_worth_134 : decode cX12_worth 134 = .ok (.if_icmp .ne 46, 3) := by decide +kernel
theorem dX12_worth_137 : decode cX12_worth 137 = .ok (.aload_n 0, 1) := by decide +kernel
theorem dX12_worth_138 : decode cX12_worth 138 = .ok (.iload_n 2, 1) := by decide +kernel
theorem dX12_worth_139 : decode cX12_worth 139 = .ok (.invokevirtual 339, 3) := by decide +kernel
theorem dX12_worth_142 : decode cX12_worth 142 = .ok (.aload_n 0, 1) := by decide +kernel
theorem dX12_worth_143 : decode cX12_worth 143 = .ok (.getfield 51, 3) := by decide +kernel
theorem dX12_worth_146 : decode cX12_worth 146 = .ok (.iload_n 2, 1) := by decide +kernel
theorem dX12_worth_147 : decode cX12_worth 147 = .ok (.aload_n 0, 1) := by decide +kernel
theorem dX12_worth_148 : decode cX12_worth 148 = .ok (.getfield 57, 3) := by decide +kernel
theorem dX12_worth_151 : decode cX12_worth 151 = .ok (.iload_n 2, 1) := by decide +kernel
theorem dX12_worth_152 : decode cX12_worth 152 = .ok (.iaload, 1) := by decide +kernel
theorem dX12_worth_153 : decode cX12_worth 153 = .ok (.iastore, 1) := by decide +kernel
theorem dX12_worth_154 : decode cX12_worth 154 = .ok (.aload_n 0, 1) := by decide +kernel
theorem dX12_worth_155 : decode cX12_worth 155 = .ok (.getfield 54, 3) := by decide +kernel
theorem dX12_worth_158 : decode cX12_worth 158 = .ok (.iload_n 2, 1) := by decide +kernel
theorem dX12_worth_159 : decode cX12_worth 159 = .ok (.iload 4, 2) := by decide +kernel
theorem dX12_worth_161 : decode cX12_worth 161 = .ok (.iastore, 1) := by decide +kernel
theorem dX12_worth_162 : decode cX12_worth 162 = .ok (.aload_n 0, 1) := by decide +kernel
theorem dX12_worth_163 : decode cX12_worth 163 = .ok (.getfield 57, 3) := by decide +kernel
theorem dX12_worth_166 : decode cX12_worth 166 = .ok (.iload_n 2, 1) := by decide +kernel
theorem dX12_worth_167 : decode cX12_worth 167 = .ok (.iconst 0, 1) := by decide +kernel
theorem dX12_worth_168 : decode cX12_worth 168 = .ok (.iastore, 1) := by decide +kernel
theorem dX12_worth_169 : decode cX12_worth 169 = .ok (.aload_n 0, 1) := by decide +kernel
theorem dX12_worth_170 : decode cX12_worth 170 = .ok (.getfield 60, 3) := by decide +kernel
theorem dX12_worth_173 : decode cX12_worth 173 = .ok (.iload_n 2, 1) := by decide +kernel
theorem dX12_worth_174 : decode cX12_worth 174 = .ok (.bipush 20, 2) := by decide +kernel
theorem dX12_worth_176 : decode cX12_worth 176 = .ok (.iastore, 1) := by decide +kernel
theorem dX12_worth_177 : decode cX12_worth 177 = .ok (.goto 159, 3) := by decide +kernel
theorem dX12_worth_180 : decode cX12_worth 180 = .ok (.iload 4, 2) := by decide +kernel
theorem dX12_worth_182 : decode cX12_worth 182 = .ok (.bipush 26, 2) := by decide +kernel
theorem dX12_worth_184 : decode cX12_worth 184 = .ok (.if_icmp .eq 10, 3) := by decide +kernel
theorem dX12_worth_187 : decode cX12_worth 187 = .ok (.iload 4, 2) := by decide +kernel
theorem dX12_worth_189 : decode cX12_worth 189 = .ok (.bipush 27, 2) := by decide +kernel
theorem dX12_worth_191 : decode cX12_worth 191 = .ok (.if_icmp .ne 19, 3) := by decide +kernel
theorem dX12_worth_194 : decode cX12_worth 194 = .ok (.aload_n 0, 1) := by decide +kernel
theorem dX12_worth_195 : decode cX12_worth 195 = .ok (.iload_n 2, 1) := by decide +kernel
theorem dX12_worth_196 : decode cX12_worth 196 = .ok (.invokevirtual 345, 3) := by decide +kernel
theorem dX12_worth_199 : decode cX12_worth 199 = .ok (.aload_n 0, 1) := by decide +kernel
theorem dX12_worth_200 : decode cX12_worth 200 = .ok (.getfield 48, 3) := by decide +kernel
theorem dX12_worth_203 : decode cX12_worth 203 = .ok (.iload_n 2, 1) := by decide +kernel
theorem dX12_worth_204 : decode cX12_worth 204 = .ok (.iload 4, 2) := by decide +kernel
theorem dX12_worth_206 : decode cX12_worth 206 = .ok (.iastore, 1) := by decide +kernel
theorem dX12_worth_207 : decode cX12_worth 207 = .ok (.goto 129, 3) := by decide +kernel
theorem dX12_worth_210 : decode cX12_worth 210 = .ok (.iload 4, 2) := by decide +kernel
theorem dX12_worth_212 : decode cX12_worth 212 = .ok (.bipush 100, 2) := by decide +kernel
theorem dX12_worth_214 : decode cX12_worth 214 = .ok (.if_icmp .lt 11, 3) := by decide +kernel
theorem dX12_worth_217 : decode cX12_worth 217 = .ok (.iload 4, 2) := by decide +kernel
theorem dX12_worth_219 : decode cX12_worth 219 = .ok (.bipush 100, 2) := by decide +kernel
theorem dX12_worth_221 : decode cX12_worth 221 = .ok (.isub, 1) := by decide +kernel
theorem dX12_worth_222 : decode cX12_worth 222 = .ok (.goto 28, 3) := by decide +kernel
theorem dX12_worth_225 : decode cX12_worth 225 = .ok (.iload 4, 2) := by decide +kernel
theorem dX12_worth_227 : decode cX12_worth 227 = .ok (.bipush 20, 2) := by decide +kernel
theorem dX12_worth_229 : decode cX12_worth 229 = .ok (.if_icmp .lt 10, 3) := by decide +kernel
theorem dX12_worth_232 : decode cX12_worth 232 = .ok (.iload 4, 2) := by decide +kernel
theorem dX12_worth_234 : decode cX12_worth 234 = .ok (.bipush 40, 2) := by decide +kernel
theorem dX12_worth_236 : decode cX12_worth 236 = .ok (.if_icmp .lt 13, 3) := by decide +kernel
theorem dX12_worth_239 : decode cX12_worth 239 = .ok (.aload_n 0, 1) := by decide +kernel
theorem dX12_worth_240 : decode cX12_worth 240 = .ok (.getfield 72, 3) := by decide +kernel
theorem dX12_worth_243 : decode cX12_worth 243 = .ok (.iload 4, 2) := by decide +kernel
theorem dX12_worth_245 : decode cX12_worth 245 = .ok (.iaload, 1) := by decide +kernel
theorem dX12_worth_246 : decode cX12_worth 246 = .ok (.goto 4, 3) := by decide +kernel
theorem dX12_worth_249 : decode cX12_worth 249 = .ok (.iconst 0, 1) := by decide +kernel
theorem dX12_worth_250 : decode cX12_worth 250 = .ok (.istore 5, 2) := by decide +kernel
theorem dX12_worth_252 : decode cX12_worth 252 = .ok (.iload 4, 2) := by decide +kernel
theorem dX12_worth_254 : decode cX12_worth 254 = .ok (.bipush 29, 2) := by decide +kernel
theorem dX12_worth_256 : decode cX12_worth 256 = .ok (.if_icmp .ne 19, 3) := by decide +kernel
theorem dX12_worth_259 : decode cX12_worth 259 = .ok (.aload_n 0, 1) := by decide +kernel
theorem dX12_worth_260 : decode cX12_worth 260 = .ok (.iload_n 2, 1) := by decide +kernel
theorem dX12_worth_261 : decode cX12_worth 261 = .ok (.invokevirtual 345, 3) := by decide +kernel
theorem dX12_worth_264 : decode cX12_worth 264 = .ok (.aload_n 0, 1) := by decide +kernel
theorem dX12_worth_265 : decode cX12_worth 265 = .ok (.getfield 45, 3) := by decide +kernel
theorem dX12_worth_268 : decode cX12_worth 268 = .ok (.iload_n 2, 1) := by decide +kernel
theorem dX12_worth_269 : decode cX12_worth 269 = .ok (.iaload, 1) := by decide +kernel
theorem dX12_worth_270 : decode cX12_worth 270 = .ok (.istore 5, 2) := by decide +kernel
theorem dX12_worth_272 : decode cX12_worth 272 = .ok (.iinc 2 (-1), 3) := by decide +kernel
theorem dX12_worth_275 : decode cX12_worth 275 = .ok (.iload_n 2, 1) := by decide +kernel
theorem dX12_worth_276 : decode cX12_worth 276 = .ok (.ifCond .le 31, 3) := by decide +kernel
theorem dX12_worth_279 : decode cX12_worth 279 = .ok (.aload_n 0, 1) := by decide +kernel
theorem dX12_worth_280 : decode cX12_worth 280 = .ok (.getfield 69, 3) := by decide +kernel
theorem dX12_worth_283 : decode cX12_worth 283 = .ok (.iload_n 2, 1) := by decide +kernel
theorem dX12_worth_284 : decode cX12_worth 284 = .ok (.iaload, 1) := by decide +kernel
theorem dX12_worth_285 : decode cX12_worth 285 = .ok (.iconst 1, 1) := by decide +kernel
theorem dX12_worth_286 : decode cX12_worth 286 = .ok (.if_icmp .ne 21, 3) := by decide +kernel
theorem dX12_worth_289 : decode cX12_worth 289 = .ok (.iload 5, 2) := by decide +kernel
theorem dX12_worth_291 : decode cX12_worth 291 = .ok (.ifCond .ne 7, 3) := by decide +kernel
theorem dX12_worth_294 : decode cX12_worth 294 = .ok (.iconst 1, 1) := by decide +kernel
theorem dX12_worth_295 : decode cX12_worth 295 = .ok (.goto 4, 3) := by decide +kernel
theorem dX12_worth_298 : decode cX12_worth 298 = .ok (.iconst 0, 1) := by decide +kernel
theorem dX12_worth_299 : decode cX12_worth 299 = .ok (.istore 5, 2) := by decide +kernel
theorem dX12_worth_301 : decode cX12_worth 301 = .ok (.iinc 2 (-1), 3) := by decide +kernel
theorem dX12_worth_304 : decode cX12_worth 304 = .ok (.goto (-29), 3) := by decide +kernel
theorem dX12_worth_307 : decode cX12_worth 307 = .ok (.aload_n 0, 1) := by decide +kernel
theorem dX12_worth_308 : decode cX12_worth 308 = .ok (.getfield 63, 3) := by decide +kernel
theorem dX12_worth_311 : decode cX12_worth 311 = .ok (.iload_n 2, 1) := by decide +kernel
theorem dX12_worth_312 : decode cX12_worth 312 = .ok (.aload_n 0, 1) := by decide +kernel
theorem dX12_worth_313 : decode cX12_worth 313 = .ok (.getfield 66, 3) := by decide +kernel
theorem dX12_worth_316 : decode cX12_worth 316 = .ok (.iload_n 2, 1) := by decide +kernel
theorem dX12_worth_317 : decode cX12_worth 317 = .ok (.iaload, 1) := by decide +kernel
theorem dX12_worth_318 : decode cX12_worth 318 = .ok (.ifCond .ne 8, 3) := by decide +kernel
theorem dX12_worth_321 : decode cX12_worth 321 = .ok (.iload 5, 2) := by decide +kernel
theorem dX12_worth_323 : decode cX12_worth 323 = .ok (.goto 12, 3) := by decide +kernel
theorem dX12_worth_326 : decode cX12_worth 326 = .ok (.aload_n 0, 1) := by decide +kernel
theorem dX12_worth_327 : decode cX12_worth 327 = .ok (.getfield 63, 3) := by decide +kernel
theorem dX12_worth_330 : decode cX12_worth 330 = .ok (.iload_n 2, 1) := by decide +kernel
theorem dX12_worth_331 : decode cX12_worth 331 = .ok (.iaload, 1) := by decide +kernel
theorem dX12_worth_332 : decode cX12_worth 332 = .ok (.iload 5, 2) := by decide +kernel
theorem dX12_worth_334 : decode cX12_worth 334 = .ok (.imul, 1) := by decide +kernel
theorem dX12_worth_335 : decode cX12_worth 335 = .ok (.iastore, 1) := by decide +kernel
theorem dX12_worth_336 : decode cX12_worth 336 = .ok (.iinc 3 1, 3) := by decide +kernel
theorem dX12_worth_339 : decode cX12_worth 339 = .ok (.goto (-325), 3) := by decide +kernel
theorem dX12_worth_342 : decode cX12_worth 342 = .ok (.aload_n 0, 1) := by decide +kernel
theorem dX12_worth_343 : decode cX12_worth 343 = .ok (.iconst 0, 1) := by decide +kernel
theorem dX12_worth_344 : decode cX12_worth 344 = .ok (.invokevirtual 345, 3) := by decide +kernel
theorem dX12_worth_347 : decode cX12_worth 347 = .ok (.aload_n 0, 1) := by decide +kernel
theorem dX12_worth_348 : decode cX12_worth 348 = .ok (.getfield 45, 3) := by decide +kernel
theorem dX12_worth_351 : decode cX12_worth 351 = .ok (.iconst 0, 1) := by decide +kernel
theorem dX12_worth_352 : decode cX12_worth 352 = .ok (.iaload, 1) := by decide +kernel
theorem dX12_worth_353 : decode cX12_worth 353 = .ok (.ireturn, 1) := by decide +kernel
def F_X12_worth_b336 (N : Nat) (rc14 : Int32 → Int32 → Int32 → PH → Option (Int32 × PH)) (x1 : Int32) (x2 : Int32) (x3 : Int32) (h : PH) : Option (Int32 × PH) :=
  ib (x3 + (1 : Int32)) fun v1 =>
  rc14 x1 x2 v1 h
set_option maxRecDepth 20000 in
set_option maxHeartbeats 4000000 in
theorem T_X12_worth_b336 {X : CT} (C : CX X 154 cX12_worth 6 RX12 (some .int) 2 43) {r0 : Int32} {h0 : PH} {N : Nat} {rc14 : Int32 → Int32 → Int32 → PH → Option (Int32 × PH)} (hr14 : ∀ (x1 : Int32) (x2 : Int32) (x3 : Int32) (h : PH), rc14 x1 x2 x3 h = some (r0, h0) → V X (QI X r0 h0) h 14 [some (.ref 103), some (.int x1), some (.int x2), some (.int x3), none, none] []) : ∀ (x1 : Int32) (x2 : Int32) (x3 : Int32) (h : PH), F_X12_worth_b336 N rc14 x1 x2 x3 h = some (r0, h0) → V X (QI X r0 h0) h 336 [some (.ref 103), some (.int x1), some (.int x2), some (.int x3), none, none] [] := by
  intro x1 x2 x3 h hyp
  unfold F_X12_worth_b336 at hyp
  obtain ⟨v1, ev1, hyp⟩ := ib_n hyp
  refine V_iinc (pc := 336) C dX12_worth_336 (v := v1) rfl (by rw [ev1]; rfl) (by decide) rfl ?_
  refine V_goto (pc := 339) C dX12_worth_339 (tgt := 14) (by decide) ?_
  refine V_weak (lv' := [some (.ref 103), some (.int x1), some (.int x2), some (.int v1), none, none]) (lvle_s (lvle_s (lvle_s (lvle_s (lvle_n (lvle_n lvle_0)))))) ?_
  exact hr14 x1 x2 v1 h hyp
def F_X12_worth_b66 (N : Nat) (rc14 : Int32 → Int32 → Int32 → PH → Option (Int32 × PH)) (x1 : Int32) (x2 : Int32) (x3 : Int32) (s0 : Int32) (s1 : Int32) (h : PH) : Option (Int32 × PH) :=
  if inb s1 7 = true then
  hb (hs h 122 s1.toNatClampNeg s0) fun h2 =>
  bV (F_X12_opens x2 h2) fun h4 =>
  F_X12_worth_b336 N rc14 x1 x2 x3 h4
  else none
set_option maxRecDepth 20000 in
set_option maxHeartbeats 4000000 in
theorem T_X12_worth_b66 {X : CT} (C : CX X 154 cX12_worth 6 RX12 (some .int) 2 43) {r0 : Int32} {h0 : PH} {N : Nat} {rc14 : Int32 → Int32 → Int32 → PH → Option (Int32 × PH)} (hr14 : ∀ (x1 : Int32) (x2 : Int32) (x3 : Int32) (h : PH), rc14 x1 x2 x3 h = some (r0, h0) → V X (QI X r0 h0) h 14 [some (.ref 103), some (.int x1), some (.int x2), some (.int x3), none, none] []) : ∀ (x1 : Int32) (x2 : Int32) (x3 : Int32) (s0 : Int32) (s1 : Int32) (h : PH), F_X12_worth_b66 N rc14 x1 x2 x3 s0 s1 h = some (r0, h0) → V X (QI X r0 h0) h 66 [some (.ref 103), some (.int x1), some (.int x2), some (.int x3), none, none] [.int s0, .int s1, .ref 122] := by
  intro x1 x2 x3 s0 s1 h hyp
  unfold F_X12_worth_b66 at hyp
  obtain ⟨g1, hyp⟩ := gd_n hyp
  obtain ⟨h2, eh2, hyp⟩ := hb_n hyp
  refine V_iast (pc := 66) C dX12_worth_66 ak_122 g1 eh2 ?_
  refine V_aload_n (pc := 67) C dX12_worth_67 rfl ?_
  refine V_iload_n (pc := 68) C dX12_worth_68 rfl ?_
  obtain ⟨h4, eh4, hyp⟩ := bV_n hyp
  refine V_callV (pc := 69) C dX12_worth_69 lm_X12_342 mk_X12_opens ok_103 rfl (M_X12_opens _ eh4) rfl pd_X12_opens (by decide) (by decide) (by decide) (As := [.int x2]) (rest := []) rfl (Nat.le_of_ble_eq_true rfl) ?_
  refine V_goto (pc := 72) C dX12_worth_72 (tgt := 336) (by decide) ?_
  refine V_weak (lv' := [some (.ref 103), some (.int x1), some (.int x2), some (.int x3), none, none]) (lvle_s (lvle_s (lvle_s (lvle_s (lvle_n (lvle_n lvle_0)))))) ?_
  exact (T_X12_worth_b336 C hr14) x1 x2 x3 h4 hyp
def F_X12_worth_b46 (N : Nat) (rc14 : Int32 → Int32 → Int32 → PH → Option (Int32 × PH)) (x1 : Int32) (x2 : Int32) (x3 : Int32) (x4 : Int32) (h : PH) : Option (Int32 × PH) :=
  ib (x2 + (1 : Int32)) fun v1 =>
  if x4 = (30 : Int32) then
    F_X12_worth_b66 N rc14 x1 v1 x3 (1 : Int32) v1 h
  else
    F_X12_worth_b66 N rc14 x1 v1 x3 (0 : Int32) v1 h
set_option maxRecDepth 20000 in
set_option maxHeartbeats 4000000 in
theorem T_X12_worth_b46 {X : CT} (C : CX X 154 cX12_worth 6 RX12 (some .int) 2 43) {r0 : Int32} {h0 : PH} {N : Nat} {rc14 : Int32 → Int32 → Int32 → PH → Option (Int32 × PH)} (hr14 : ∀ (x1 : Int32) (x2 : Int32) (x3 : Int32) (h : PH), rc14 x1 x2 x3 h = some (r0, h0) → V X (QI X r0 h0) h 14 [some (.ref 103), some (.int x1), some (.int x2), some (.int x3), none, none] []) : ∀ (x1 : Int32) (x2 : Int32) (x3 : Int32) (x4 : Int32) (h : PH), F_X12_worth_b46 N rc14 x1 x2 x3 x4 h = some (r0, h0) → V X (QI X r0 h0) h 46 [some (.ref 103), some (.int x1), some (.int x2), some (.int x3), some (.int x4), none] [] := by
  intro x1 x2 x3 x4 h hyp
  unfold F_X12_worth_b46 at hyp
  obtain ⟨v1, ev1, hyp⟩ := ib_n hyp
  refine V_iinc (pc := 46) C dX12_worth_46 (v := v1) rfl (by rw [ev1]; rfl) (by decide) rfl ?_
  refine V_aload_n (pc := 49) C dX12_worth_49 rfl ?_
  refine V_getR (pc := 50) C dX12_worth_50 lf_X12_69 fk_103_31 ?_
  refine V_iload_n (pc := 53) C dX12_worth_53 rfl ?_
  refine V_iload (pc := 54) C dX12_worth_54 rfl ?_
  refine V_bipush (pc := 56) C dX12_worth_56 (v := 30) (by decide) ?_
  refine V_icmp_ne (pc := 58) C dX12_worth_58 (tgt := 65) (by decide) (fun q2 => ?_) (fun q2 => ?_)
  · replace hyp := (if_neg q2).symm.trans hyp
    refine V_iconst (pc := 65) C dX12_worth_65 (v := 0) (by decide) ?_
    refine V_weak (lv' := [some (.ref 103), some (.int x1), some (.int v1), some (.int x3), none, none]) (lvle_s (lvle_s (lvle_s (lvle_s (lvle_n (lvle_n lvle_0)))))) ?_
    exact (T_X12_worth_b66 C hr14) x1 v1 x3 (0 : Int32) v1 h hyp
  · replace hyp := (if_pos q2).symm.trans hyp
    refine V_iconst (pc := 61) C dX12_worth_61 (v := 1) (by decide) ?_
    refine V_goto (pc := 62) C dX12_worth_62 (tgt := 66) (by decide) ?_
    refine V_weak (lv' := [some (.ref 103), some (.int x1), some (.int v1), some (.int x3), none, none]) (lvle_s (lvle_s (lvle_s (lvle_s (lvle_n (lvle_n lvle_0)))))) ?_
    exact (T_X12_worth_b66 C hr14) x1 v1 x3 (1 : Int32) v1 h hyp
def F_X12_worth_b89 (N : Nat) (rc14 : Int32 → Int32 → Int32 → PH → Option (Int32 × PH)) (x1 : Int32) (x2 : Int32) (x3 : Int32) (x4 : Int32) (h : PH) : Option (Int32 × PH) :=
  bV (F_X12_sums x2 h) fun h2 =>
  if inb x2 7 = true then
  hb (hs h2 119 x2.toNatClampNeg x4) fun h4 =>
  F_X12_worth_b336 N rc14 x1 x2 x3 h4
  else none
set_option maxRecDepth 20000 in
set_option maxHeartbeats 4000000 in
theorem T_X12_worth_b89 {X : CT} (C : CX X 154 cX12_worth 6 RX12 (some .int) 2 43) {r0 : Int32} {h0 : PH} {N : Nat} {rc14 : Int32 → Int32 → Int32 → PH → Option (Int32 × PH)} (hr14 : ∀ (x1 : Int32) (x2 : Int32) (x3 : Int32) (h : PH), rc14 x1 x2 x3 h = some (r0, h0) → V X (QI X r0 h0) h 14 [some (.ref 103), some (.int x1), some (.int x2), some (.int x3), none, none] []) : ∀ (x1 : Int32) (x2 : Int32) (x3 : Int32) (x4 : Int32) (h : PH), F_X12_worth_b89 N rc14 x1 x2 x3 x4 h = some (r0, h0) → V X (QI X r0 h0) h 89 [some (.ref 103), some (.int x1), some (.int x2), some (.int x3), some (.int x4), none] [] := by
  intro x1 x2 x3 x4 h hyp
  unfold F_X12_worth_b89 at hyp
  refine V_aload_n (pc := 89) C dX12_worth_89 rfl ?_
  refine V_iload_n (pc := 90) C dX12_worth_90 rfl ?_
  obtain ⟨h2, eh2, hyp⟩ := bV_n hyp
  refine V_callV (pc := 91) C dX12_worth_91 lm_X12_339 mk_X12_sums ok_103 rfl (M_X12_sums _ eh2) rfl pd_X12_sums (by decide) (by decide) (by decide) (As := [.int x2]) (rest := []) rfl (Nat.le_of_ble_eq_true rfl) ?_
  refine V_aload_n (pc := 94) C dX12_worth_94 rfl ?_
  refine V_getR (pc := 95) C dX12_worth_95 lf_X12_60 fk_103_28 ?_
  refine V_iload_n (pc := 98) C dX12_worth_98 rfl ?_
  refine V_iload (pc := 99) C dX12_worth_99 rfl ?_
  obtain ⟨g3, hyp⟩ := gd_n hyp
  obtain ⟨h4, eh4, hyp⟩ := hb_n hyp
  refine V_iast (pc := 101) C dX12_worth_101 ak_119 g3 eh4 ?_
  refine V_goto (pc := 102) C dX12_worth_102 (tgt := 336) (by decide) ?_
  refine V_weak (lv' := [some (.ref 103), some (.int x1), some (.int x2), some (.int x3), none, none]) (lvle_s (lvle_s (lvle_s (lvle_s (lvle_n (lvle_n lvle_0)))))) ?_
  exact (T_X12_worth_b336 C hr14) x1 x2 x3 h4 hyp
def F_X12_worth_b137 (N : Nat) (rc14 : Int32 → Int32 → Int32 → PH → Option (Int32 × PH)) (x1 : Int32) (x2 : Int32) (x3 : Int32) (x4 : Int32) (h : PH) : Option (Int32 × PH) :=
  bV (F_X12_sums x2 h) fun h2 =>
  if inb x2 7 = true then
  hb (hs h2 116 x2.toNatClampNeg (h2.1 118 x2.toNatClampNeg)) fun h4 =>
  hb (hs h4 117 x2.toNatClampNeg x4) fun h5 =>
  hb (hs h5 118 x2.toNatClampNeg (0 : Int32)) fun h6 =>
  hb (hs h6 119 x2.toNatClampNeg (20 : Int32)) fun h7 =>
  F_X12_worth_b336 N rc14 x1 x2 x3 h7
  else none
set_option maxRecDepth 20000 in
set_option maxHeartbeats 4000000 in
theorem T_X12_worth_b137 {X : CT} (C : CX X 154 cX12_worth 6 RX12 (some .int) 2 43) {r0 : Int32} {h0 : PH} {N : Nat} {rc14 : Int32 → Int32 → Int32 → PH → Option (Int32 × PH)} (hr14 : ∀ (x1 : Int32) (x2 : Int32) (x3 : Int32) (h : PH), rc14 x1 x2 x3 h = some (r0, h0) → V X (QI X r0 h0) h 14 [some (.ref 103), some (.int x1), some (.int x2), some (.int x3), none, none] []) : ∀ (x1 : Int32) (x2 : Int32) (x3 : Int32) (x4 : Int32) (h : PH), F_X12_worth_b137 N rc14 x1 x2 x3 x4 h = some (r0, h0) → V X (QI X r0 h0) h 137 [some (.ref 103), some (.int x1), some (.int x2), some (.int x3), some (.int x4), none] [] := by
  intro x1 x2 x3 x4 h hyp
  unfold F_X12_worth_b137 at hyp
  refine V_aload_n (pc := 137) C dX12_worth_137 rfl ?_
  refine V_iload_n (pc := 138) C dX12_worth_138 rfl ?_
  obtain ⟨h2, eh2, hyp⟩ := bV_n hyp
  refine V_callV (pc := 139) C dX12_worth_139 lm_X12_339 mk_X12_sums ok_103 rfl (M_X12_sums _ eh2) rfl pd_X12_sums (by decide) (by decide) (by decide) (As := [.int x2]) (rest := []) rfl (Nat.le_of_ble_eq_true rfl) ?_
  refine V_aload_n (pc := 142) C dX12_worth_142 rfl ?_
  refine V_getR (pc := 143) C dX12_worth_143 lf_X12_51 fk_103_25 ?_
  refine V_iload_n (pc := 146) C dX12_worth_146 rfl ?_
  refine V_aload_n (pc := 147) C dX12_worth_147 rfl ?_
  refine V_getR (pc := 148) C dX12_worth_148 lf_X12_57 fk_103_27 ?_
  refine V_iload_n (pc := 151) C dX12_worth_151 rfl ?_
  obtain ⟨g3, hyp⟩ := gd_n hyp
  refine V_iald (pc := 152) C dX12_worth_152 ak_118 g3 ?_
  obtain ⟨h4, eh4, hyp⟩ := hb_n hyp
  refine V_iast (pc := 153) C dX12_worth_153 ak_116 g3 eh4 ?_
  refine V_aload_n (pc := 154) C dX12_worth_154 rfl ?_
  refine V_getR (pc := 155) C dX12_worth_155 lf_X12_54 fk_103_26 ?_
  refine V_iload_n (pc := 158) C dX12_worth_158 rfl ?_
  refine V_iload (pc := 159) C dX12_worth_159 rfl ?_
  obtain ⟨h5, eh5, hyp⟩ := hb_n hyp
  refine V_iast (pc := 161) C dX12_worth_161 ak_117 g3 eh5 ?_
  refine V_aload_n (pc := 162) C dX12_worth_162 rfl ?_
  refine V_getR (pc := 163) C dX12_worth_163 lf_X12_57 fk_103_27 ?_
  refine V_iload_n (pc := 166) C dX12_worth_166 rfl ?_
  refine V_iconst (pc := 167) C dX12_worth_167 (v := 0) (by decide) ?_
  obtain ⟨h6, eh6, hyp⟩ := hb_n hyp
  refine V_iast (pc := 168) C dX12_worth_168 ak_118 g3 eh6 ?_
  refine V_aload_n (pc := 169) C dX12_worth_169 rfl ?_
  refine V_getR (pc := 170) C dX12_worth_170 lf_X12_60 fk_103_28 ?_
  refine V_iload_n (pc := 173) C dX12_worth_173 rfl ?_
  refine V_bipush (pc := 174) C dX12_worth_174 (v := 20) (by decide) ?_
  obtain ⟨h7, eh7, hyp⟩ := hb_n hyp
  refine V_iast (pc := 176) C dX12_worth_176 ak_119 g3 eh7 ?_
  refine V_goto (pc := 177) C dX12_worth_177 (tgt := 336) (by decide) ?_
  refine V_weak (lv' := [some (.ref 103), some (.int x1), some (.int x2), some (.int x3), none, none]) (lvle_s (lvle_s (lvle_s (lvle_s (lvle_n (lvle_n lvle_0)))))) ?_
  exact (T_X12_worth_b336 C hr14) x1 x2 x3 h7 hyp
def F_X12_worth_b194 (N : Nat) (rc14 : Int32 → Int32 → Int32 → PH → Option (Int32 × PH)) (x1 : Int32) (x2 : Int32) (x3 : Int32) (x4 : Int32) (h : PH) : Option (Int32 × PH) :=
  bV (F_X12_holds x2 h) fun h2 =>
  if inb x2 7 = true then
  hb (hs h2 115 x2.toNatClampNeg x4) fun h4 =>
  F_X12_worth_b336 N rc14 x1 x2 x3 h4
  else none
set_option maxRecDepth 20000 in
set_option maxHeartbeats 4000000 in
theorem T_X12_worth_b194 {X : CT} (C : CX X 154 cX12_worth 6 RX12 (some .int) 2 43) {r0 : Int32} {h0 : PH} {N : Nat} {rc14 : Int32 → Int32 → Int32 → PH → Option (Int32 × PH)} (hr14 : ∀ (x1 : Int32) (x2 : Int32) (x3 : Int32) (h : PH), rc14 x1 x2 x3 h = some (r0, h0) → V X (QI X r0 h0) h 14 [some (.ref 103), some (.int x1), some (.int x2), some (.int x3), none, none] []) : ∀ (x1 : Int32) (x2 : Int32) (x3 : Int32) (x4 : Int32) (h : PH), F_X12_worth_b194 N rc14 x1 x2 x3 x4 h = some (r0, h0) → V X (QI X r0 h0) h 194 [some (.ref 103), some (.int x1), some (.int x2), some (.int x3), some (.int x4), none] [] := by
  intro x1 x2 x3 x4 h hyp
  unfold F_X12_worth_b194 at hyp
  refine V_aload_n (pc := 194) C dX12_worth_194 rfl ?_
  refine V_iload_n (pc := 195) C dX12_worth_195 rfl ?_
  obtain ⟨h2, eh2, hyp⟩ := bV_n hyp
  refine V_callV (pc := 196) C dX12_worth_196 lm_X12_345 mk_X12_holds ok_103 rfl (M_X12_holds _ eh2) rfl pd_X12_holds (by decide) (by decide) (by decide) (As := [.int x2]) (rest := []) rfl (Nat.le_of_ble_eq_true rfl) ?_
  refine V_aload_n (pc := 199) C dX12_worth_199 rfl ?_
  refine V_getR (pc := 200) C dX12_worth_200 lf_X12_48 fk_103_24 ?_
  refine V_iload_n (pc := 203) C dX12_worth_203 rfl ?_
  refine V_iload (pc := 204) C dX12_worth_204 rfl ?_
  obtain ⟨g3, hyp⟩ := gd_n hyp
  obtain ⟨h4, eh4, hyp⟩ := hb_n hyp
  refine V_iast (pc := 206) C dX12_worth_206 ak_115 g3 eh4 ?_
  refine V_goto (pc := 207) C dX12_worth_207 (tgt := 336) (by decide) ?_
  refine V_weak (lv' := [some (.ref 103), some (.int x1), some (.int x2), some (.int x3), none, none]) (lvle_s (lvle_s (lvle_s (lvle_s (lvle_n (lvle_n lvle_0)))))) ?_
  exact (T_X12_worth_b336 C hr14) x1 x2 x3 h4 hyp
def F_X12_worth_b299 (N : Nat) (rc14 : Int32 → Int32 → Int32 → PH → Option (Int32 × PH)) (rc275 : Int32 → Int32 → Int32 → Int32 → PH → Option (Int32 × PH)) (x1 : Int32) (x2 : Int32) (x3 : Int32) (s0 : Int32) (h : PH) : Option (Int32 × PH) :=
  ib (x2 + (-1 : Int32)) fun v1 =>
  rc275 x1 v1 x3 s0 h
set_option maxRecDepth 20000 in
set_option maxHeartbeats 4000000 in
theorem T_X12_worth_b299 {X : CT} (C : CX X 154 cX12_worth 6 RX12 (some .int) 2 43) {r0 : Int32} {h0 : PH} {N : Nat} {rc14 : Int32 → Int32 → Int32 → PH → Option (Int32 × PH)} {rc275 : Int32 → Int32 → Int32 → Int32 → PH → Option (Int32 × PH)} (hr14 : ∀ (x1 : Int32) (x2 : Int32) (x3 : Int32) (h : PH), rc14 x1 x2 x3 h = some (r0, h0) → V X (QI X r0 h0) h 14 [some (.ref 103), some (.int x1), some (.int x2), some (.int x3), none, none] []) (hr275 : ∀ (x1 : Int32) (x2 : Int32) (x3 : Int32) (x5 : Int32) (h : PH), rc275 x1 x2 x3 x5 h = some (r0, h0) → V X (QI X r0 h0) h 275 [some (.ref 103), some (.int x1), some (.int x2), some (.int x3), none, some (.int x5)] []) : ∀ (x1 : Int32) (x2 : Int32) (x3 : Int32) (s0 : Int32) (h : PH), F_X12_worth_b299 N rc14 rc275 x1 x2 x3 s0 h = some (r0, h0) → V X (QI X r0 h0) h 299 [some (.ref 103), some (.int x1), some (.int x2), some (.int x3), none, none] [.int s0] := by
  intro x1 x2 x3 s0 h hyp
  unfold F_X12_worth_b299 at hyp
  refine V_istore (pc := 299) C dX12_worth_299 (by decide) rfl ?_
  obtain ⟨v1, ev1, hyp⟩ := ib_n hyp
  refine V_iinc (pc := 301) C dX12_worth_301 (v := v1) rfl (by rw [ev1]; rfl) (by decide) rfl ?_
  refine V_goto (pc := 304) C dX12_worth_304 (tgt := 275) (by decide) ?_
  refine V_weak (lv' := [some (.ref 103), some (.int x1), some (.int v1), some (.int x3), none, some (.int s0)]) (lvle_s (lvle_s (lvle_s (lvle_s (lvle_n (lvle_s lvle_0)))))) ?_
  exact hr275 x1 v1 x3 s0 h hyp
def F_X12_worth_b335 (N : Nat) (rc14 : Int32 → Int32 → Int32 → PH → Option (Int32 × PH)) (x1 : Int32) (x2 : Int32) (x3 : Int32) (s0 : Int32) (s1 : Int32) (h : PH) : Option (Int32 × PH) :=
  if inb s1 7 = true then
  hb (hs h 120 s1.toNatClampNeg s0) fun h2 =>
  F_X12_worth_b336 N rc14 x1 x2 x3 h2
  else none
set_option maxRecDepth 20000 in
set_option maxHeartbeats 4000000 in
theorem T_X12_worth_b335 {X : CT} (C : CX X 154 cX12_worth 6 RX12 (some .int) 2 43) {r0 : Int32} {h0 : PH} {N : Nat} {rc14 : Int32 → Int32 → Int32 → PH → Option (Int32 × PH)} (hr14 : ∀ (x1 : Int32) (x2 : Int32) (x3 : Int32) (h : PH), rc14 x1 x2 x3 h = some (r0, h0) → V X (QI X r0 h0) h 14 [some (.ref 103), some (.int x1), some (.int x2), some (.int x3), none, none] []) : ∀ (x1 : Int32) (x2 : Int32) (x3 : Int32) (s0 : Int32) (s1 : Int32) (h : PH), F_X12_worth_b335 N rc14 x1 x2 x3 s0 s1 h = some (r0, h0) → V X (QI X r0 h0) h 335 [some (.ref 103), some (.int x1), some (.int x2), some (.int x3), none, none] [.int s0, .int s1, .ref 120] := by
  intro x1 x2 x3 s0 s1 h hyp
  unfold F_X12_worth_b335 at hyp
  obtain ⟨g1, hyp⟩ := gd_n hyp
  obtain ⟨h2, eh2, hyp⟩ := hb_n hyp
  refine V_iast (pc := 335) C dX12_worth_335 ak_120 g1 eh2 ?_
  refine V_weak (lv' := [some (.ref 103), some (.int x1), some (.int x2), some (.int x3), none, none]) (lvle_s (lvle_s (lvle_s (lvle_s (lvle_n (lvle_n lvle_0)))))) ?_
  exact (T_X12_worth_b336 C hr14) x1 x2 x3 h2 hyp
def F_X12_worth_b307 (N : Nat) (rc14 : Int32 → Int32 → Int32 → PH → Option (Int32 × PH)) (x1 : Int32) (x2 : Int32) (x3 : Int32) (x5 : Int32) (h : PH) : Option (Int32 × PH) :=
  if inb x2 7 = true then
  if (h.1 121 x2.toNatClampNeg) = 0 then
    F_X12_worth_b335 N rc14 x1 x2 x3 x5 x2 h
  else
    if inb x2 7 = true then
    F_X12_worth_b335 N rc14 x1 x2 x3 ((h.1 120 x2.toNatClampNeg) * x5) x2 h
    else none
  else none
set_option maxRecDepth 20000 in
set_option maxHeartbeats 4000000 in
theorem T_X12_worth_b307 {X : CT} (C : CX X 154 cX12_worth 6 RX12 (some .int) 2 43) {r0 : Int32} {h0 : PH} {N : Nat} {rc14 : Int32 → Int32 → Int32 → PH → Option (Int32 × PH)} (hr14 : ∀ (x1 : Int32) (x2 : Int32) (x3 : Int32) (h : PH), rc14 x1 x2 x3 h = some (r0, h0) → V X (QI X r0 h0) h 14 [some (.ref 103), some (.int x1), some (.int x2), some (.int x3), none, none] []) : ∀ (x1 : Int32) (x2 : Int32) (x3 : Int32) (x5 : Int32) (h : PH), F_X12_worth_b307 N rc14 x1 x2 x3 x5 h = some (r0, h0) → V X (QI X r0 h0) h 307 [some (.ref 103), some (.int x1), some (.int x2), some (.int x3), none, some (.int x5)] [] := by
  intro x1 x2 x3 x5 h hyp
  unfold F_X12_worth_b307 at hyp
  refine V_aload_n (pc := 307) C dX12_worth_307 rfl ?_
  refine V_getR (pc := 308) C dX12_worth_308 lf_X12_63 fk_103_29 ?_
  refine V_iload_n (pc := 311) C dX12_worth_311 rfl ?_
  refine V_aload_n (pc := 312) C dX12_worth_312 rfl ?_
  refine V_getR (pc := 313) C dX12_worth_313 lf_X12_66 fk_103_30 ?_
  refine V_iload_n (pc := 316) C dX12_worth_316 rfl ?_
  obtain ⟨g1, hyp⟩ := gd_n hyp
  refine V_iald (pc := 317) C dX12_worth_317 ak_121 g1 ?_
  refine V_if_ne (pc := 318) C dX12_worth_318 (tgt := 326) (by decide) (fun q2 => ?_) (fun q2 => ?_)
  · replace hyp := (if_neg q2).symm.trans hyp
    refine V_aload_n (pc := 326) C dX12_worth_326 rfl ?_
    refine V_getR (pc := 327) C dX12_worth_327 lf_X12_63 fk_103_29 ?_
    refine V_iload_n (pc := 330) C dX12_worth_330 rfl ?_
    obtain ⟨g3, hyp⟩ := gd_n hyp
    refine V_iald (pc := 331) C dX12_worth_331 ak_120 g3 ?_
    refine V_iload (pc := 332) C dX12_worth_332 rfl ?_
    refine V_imul (pc := 334) C dX12_worth_334 ?_
    refine V_weak (lv' := [some (.ref 103), some (.int x1), some (.int x2), some (.int x3), none, none]) (lvle_s (lvle_s (lvle_s (lvle_s (lvle_n (lvle_n lvle_0)))))) ?_
    exact (T_X12_worth_b335 C hr14) x1 x2 x3 ((h.1 120 x2.toNatClampNeg) * x5) x2 h hyp
  · replace hyp := (if_pos q2).symm.trans hyp
    refine V_iload (pc := 321) C dX12_worth_321 rfl ?_
    refine V_goto (pc := 323) C dX12_worth_323 (tgt := 335) (by decide) ?_
    refine V_weak (lv' := [some (.ref 103), some (.int x1), some (.int x2), some (.int x3), none, none]) (lvle_s (lvle_s (lvle_s (lvle_s (lvle_n (lvle_n lvle_0)))))) ?_
    exact (T_X12_worth_b335 C hr14) x1 x2 x3 x5 x2 h hyp
def F_X12_worth_b275 (N : Nat) (rc14 : Int32 → Int32 → Int32 → PH → Option (Int32 × PH)) : Nat → Int32 → Int32 → Int32 → Int32 → PH → Option (Int32 × PH)
  | 0, _, _, _, _, _ => none
  | n + 1, x1, x2, x3, x5, h =>
    if x2 ≤ 0 then
      F_X12_worth_b307 N rc14 x1 x2 x3 x5 h
    else
      if inb x2 7 = true then
      if (h.1 122 x2.toNatClampNeg) = (1 : Int32) then
        if x5 = 0 then
          F_X12_worth_b299 N rc14 (F_X12_worth_b275 N rc14 n) x1 x2 x3 (1 : Int32) h
        else
          F_X12_worth_b299 N rc14 (F_X12_worth_b275 N rc14 n) x1 x2 x3 (0 : Int32) h
      else
        F_X12_worth_b307 N rc14 x1 x2 x3 x5 h
      else none
set_option maxRecDepth 20000 in
set_option maxHeartbeats 4000000 in
theorem T_X12_worth_b275 {X : CT} (C : CX X 154 cX12_worth 6 RX12 (some .int) 2 43) {r0 : Int32} {h0 : PH} {N : Nat} {rc14 : Int32 → Int32 → Int32 → PH → Option (Int32 × PH)} (hr14 : ∀ (x1 : Int32) (x2 : Int32) (x3 : Int32) (h : PH), rc14 x1 x2 x3 h = some (r0, h0) → V X (QI X r0 h0) h 14 [some (.ref 103), some (.int x1), some (.int x2), some (.int x3), none, none] []) : ∀ (n : Nat) (x1 : Int32) (x2 : Int32) (x3 : Int32) (x5 : Int32) (h : PH), F_X12_worth_b275 N rc14 n x1 x2 x3 x5 h = some (r0, h0) → V X (QI X r0 h0) h 275 [some (.ref 103), some (.int x1), some (.int x2), some (.int x3), none, some (.int x5)] [] := by
  intro n
  induction n with
  | zero =>
    intro x1 x2 x3 x5 h hyp
    cases hyp
  | succ n ih =>
    intro x1 x2 x3 x5 h hyp
    unfold F_X12_worth_b275 at hyp
    refine V_iload_n (pc := 275) C dX12_worth_275 rfl ?_
    refine V_if_le (pc := 276) C dX12_worth_276 (tgt := 307) (by decide) (fun q1 => ?_) (fun q1 => ?_)
    · replace hyp := (if_pos q1).symm.trans hyp
      refine V_weak (lv' := [some (.ref 103), some (.int x1), some (.int x2), some (.int x3), none, some (.int x5)]) (lvle_s (lvle_s (lvle_s (lvle_s (lvle_n (lvle_s lvle_0)))))) ?_
      exact (T_X12_worth_b307 C hr14) x1 x2 x3 x5 h hyp
    · replace hyp := (if_neg q1).symm.trans hyp
      refine V_aload_n (pc := 279) C dX12_worth_279 rfl ?_
      refine V_getR (pc := 280) C dX12_worth_280 lf_X12_69 fk_103_31 ?_
      refine V_iload_n (pc := 283) C dX12_worth_283 rfl ?_
      obtain ⟨g2, hyp⟩ := gd_n hyp
      refine V_iald (pc := 284) C dX12_worth_284 ak_122 g2 ?_
      refine V_iconst (pc := 285) C dX12_worth_285 (v := 1) (by decide) ?_
      refine V_icmp_ne (pc := 286) C dX12_worth_286 (tgt := 307) (by decide) (fun q3 => ?_) (fun q3 => ?_)
      · replace hyp := (if_neg q3).symm.trans hyp
        refine V_weak (lv' := [some (.ref 103), some (.int x1), some (.int x2), some (.int x3), none, some (.int x5)]) (lvle_s (lvle_s (lvle_s (lvle_s (lvle_n (lvle_s lvle_0)))))) ?_
        exact (T_X12_worth_b307 C hr14) x1 x2 x3 x5 h hyp
      · replace hyp := (if_pos q3).symm.trans hyp
        refine V_iload (pc := 289) C dX12_worth_289 rfl ?_
        refine V_if_ne (pc := 291) C dX12_worth_291 (tgt := 298) (by decide) (fun q4 => ?_) (fun q4 => ?_)
        · replace hyp := (if_neg q4).symm.trans hyp
          refine V_iconst (pc := 298) C dX12_worth_298 (v := 0) (by decide) ?_
          refine V_weak (lv' := [some (.ref 103), some (.int x1), some (.int x2), some (.int x3), none, none]) (lvle_s (lvle_s (lvle_s (lvle_s (lvle_n (lvle_n lvle_0)))))) ?_
          exact (T_X12_worth_b299 C hr14 ih) x1 x2 x3 (0 : Int32) h hyp
        · replace hyp := (if_pos q4).symm.trans hyp
          refine V_iconst (pc := 294) C dX12_worth_294 (v := 1) (by decide) ?_
          refine V_goto (pc := 295) C dX12_worth_295 (tgt := 299) (by decide) ?_
          refine V_weak (lv' := [some (.ref 103), some (.int x1), some (.int x2), some (.int x3), none, none]) (lvle_s (lvle_s (lvle_s (lvle_s (lvle_n (lvle_n lvle_0)))))) ?_
          exact (T_X12_worth_b299 C hr14 ih) x1 x2 x3 (1 : Int32) h hyp
def F_X12_worth_b250 (N : Nat) (rc14 : Int32 → Int32 → Int32 → PH → Option (Int32 × PH)) (x1 : Int32) (x2 : Int32) (x3 : Int32) (x4 : Int32) (s0 : Int32) (h : PH) : Option (Int32 × PH) :=
  if x4 = (29 : Int32) then
    bV (F_X12_holds x2 h) fun h3 =>
    if inb x2 7 = true then
    ib (h3.1 114 x2.toNatClampNeg) fun v5 =>
    ib (x2 + (-1 : Int32)) fun v6 =>
    F_X12_worth_b275 N rc14 N x1 v6 x3 v5 h3
    else none
  else
    F_X12_worth_b275 N rc14 N x1 x2 x3 s0 h
set_option maxRecDepth 20000 in
set_option maxHeartbeats 4000000 in
theorem T_X12_worth_b250 {X : CT} (C : CX X 154 cX12_worth 6 RX12 (some .int) 2 43) {r0 : Int32} {h0 : PH} {N : Nat} {rc14 : Int32 → Int32 → Int32 → PH → Option (Int32 × PH)} (hr14 : ∀ (x1 : Int32) (x2 : Int32) (x3 : Int32) (h : PH), rc14 x1 x2 x3 h = some (r0, h0) → V X (QI X r0 h0) h 14 [some (.ref 103), some (.int x1), some (.int x2), some (.int x3), none, none] []) : ∀ (x1 : Int32) (x2 : Int32) (x3 : Int32) (x4 : Int32) (s0 : Int32) (h : PH), F_X12_worth_b250 N rc14 x1 x2 x3 x4 s0 h = some (r0, h0) → V X (QI X r0 h0) h 250 [some (.ref 103), some (.int x1), some (.int x2), some (.int x3), some (.int x4), none] [.int s0] := by
  intro x1 x2 x3 x4 s0 h hyp
  unfold F_X12_worth_b250 at hyp
  refine V_istore (pc := 250) C dX12_worth_250 (by decide) rfl ?_
  refine V_iload (pc := 252) C dX12_worth_252 rfl ?_
  refine V_bipush (pc := 254) C dX12_worth_254 (v := 29) (by decide) ?_
  refine V_icmp_ne (pc := 256) C dX12_worth_256 (tgt := 275) (by decide) (fun q1 => ?_) (fun q1 => ?_)
  · replace hyp := (if_neg q1).symm.trans hyp
    refine V_weak (lv' := [some (.ref 103), some (.int x1), some (.int x2), some (.int x3), none, some (.int s0)]) (lvle_s (lvle_s (lvle_s (lvle_s (lvle_n (lvle_s lvle_0)))))) ?_
    exact (T_X12_worth_b275 C hr14) N x1 x2 x3 s0 h hyp
  · replace hyp := (if_pos q1).symm.trans hyp
    refine V_aload_n (pc := 259) C dX12_worth_259 rfl ?_
    refine V_iload_n (pc := 260) C dX12_worth_260 rfl ?_
    obtain ⟨h3, eh3, hyp⟩ := bV_n hyp
    refine V_callV (pc := 261) C dX12_worth_261 lm_X12_345 mk_X12_holds ok_103 rfl (M_X12_holds _ eh3) rfl pd_X12_holds (by decide) (by decide) (by decide) (As := [.int x2]) (rest := []) rfl (Nat.le_of_ble_eq_true rfl) ?_
    refine V_aload_n (pc := 264) C dX12_worth_264 rfl ?_
    refine V_getR (pc := 265) C dX12_worth_265 lf_X12_45 fk_103_23 ?_
    refine V_iload_n (pc := 268) C dX12_worth_268 rfl ?_
    obtain ⟨g4, hyp⟩ := gd_n hyp
    refine V_iald (pc := 269) C dX12_worth_269 ak_114 g4 ?_
    obtain ⟨v5, ev5, hyp⟩ := ib_n hyp
    refine V_topI ev5 ?_
    refine V_istore (pc := 270) C dX12_worth_270 (by decide) rfl ?_
    obtain ⟨v6, ev6, hyp⟩ := ib_n hyp
    refine V_iinc (pc := 272) C dX12_worth_272 (v := v6) rfl (by rw [ev6]; rfl) (by decide) rfl ?_
    refine V_weak (lv' := [some (.ref 103), some (.int x1), some (.int v6), some (.int x3), none, some (.int v5)]) (lvle_s (lvle_s (lvle_s (lvle_s (lvle_n (lvle_s lvle_0)))))) ?_
    exact (T_X12_worth_b275 C hr14) N x1 v6 x3 v5 h3 hyp
def F_X12_worth_b239 (N : Nat) (rc14 : Int32 → Int32 → Int32 → PH → Option (Int32 × PH)) (x1 : Int32) (x2 : Int32) (x3 : Int32) (x4 : Int32) (h : PH) : Option (Int32 × PH) :=
  if inb x4 60 = true then
  F_X12_worth_b250 N rc14 x1 x2 x3 x4 (h.1 123 x4.toNatClampNeg) h
  else none
set_option maxRecDepth 20000 in
set_option maxHeartbeats 4000000 in
theorem T_X12_worth_b239 {X : CT} (C : CX X 154 cX12_worth 6 RX12 (some .int) 2 43) {r0 : Int32} {h0 : PH} {N : Nat} {rc14 : Int32 → Int32 → Int32 → PH → Option (Int32 × PH)} (hr14 : ∀ (x1 : Int32) (x2 : Int32) (x3 : Int32) (h : PH), rc14 x1 x2 x3 h = some (r0, h0) → V X (QI X r0 h0) h 14 [some (.ref 103), some (.int x1), some (.int x2), some (.int x3), none, none] []) : ∀ (x1 : Int32) (x2 : Int32) (x3 : Int32) (x4 : Int32) (h : PH), F_X12_worth_b239 N rc14 x1 x2 x3 x4 h = some (r0, h0) → V X (QI X r0 h0) h 239 [some (.ref 103), some (.int x1), some (.int x2), some (.int x3), some (.int x4), none] [] := by
  intro x1 x2 x3 x4 h hyp
  unfold F_X12_worth_b239 at hyp
  refine V_aload_n (pc := 239) C dX12_worth_239 rfl ?_
  refine V_getR (pc := 240) C dX12_worth_240 lf_X12_72 fk_103_32 ?_
  refine V_iload (pc := 243) C dX12_worth_243 rfl ?_
  obtain ⟨g1, hyp⟩ := gd_n hyp
  refine V_iald (pc := 245) C dX12_worth_245 ak_123 g1 ?_
  refine V_goto (pc := 246) C dX12_worth_246 (tgt := 250) (by decide) ?_
  refine V_weak (lv' := [some (.ref 103), some (.int x1), some (.int x2), some (.int x3), some (.int x4), none]) (lvle_s (lvle_s (lvle_s (lvle_s (lvle_s (lvle_n lvle_0)))))) ?_
  exact (T_X12_worth_b250 C hr14) x1 x2 x3 x4 (h.1 123 x4.toNatClampNeg) h hyp
def F_X12_worth_b342 (N : Nat) (h : PH) : Option (Int32 × PH) :=
  bV (F_X12_holds (0 : Int32) h) fun h2 =>
  if inb (0 : Int32) 7 = true then
  some (h2.1 114 (0 : Int32).toNatClampNeg, h2)
  else none
set_option maxRecDepth 20000 in
set_option maxHeartbeats 4000000 in
theorem T_X12_worth_b342 {X : CT} (C : CX X 154 cX12_worth 6 RX12 (some .int) 2 43) {r0 : Int32} {h0 : PH} {N : Nat} : ∀ (h : PH), F_X12_worth_b342 N  h = some (r0, h0) → V X (QI X r0 h0) h 342 [some (.ref 103), none, none, none, none, none] [] := by
  intro  h hyp
  unfold F_X12_worth_b342 at hyp
  refine V_aload_n (pc := 342) C dX12_worth_342 rfl ?_
  refine V_iconst (pc := 343) C dX12_worth_343 (v := 0) (by decide) ?_
  obtain ⟨h2, eh2, hyp⟩ := bV_n hyp
  refine V_callV (pc := 344) C dX12_worth_344 lm_X12_345 mk_X12_holds ok_103 rfl (M_X12_holds _ eh2) rfl pd_X12_holds (by decide) (by decide) (by decide) (As := [.int (0 : Int32)]) (rest := []) rfl (Nat.le_of_ble_eq_true rfl) ?_
  refine V_aload_n (pc := 347) C dX12_worth_347 rfl ?_
  refine V_getR (pc := 348) C dX12_worth_348 lf_X12_45 fk_103_23 ?_
  refine V_iconst (pc := 351) C dX12_worth_351 (v := 0) (by decide) ?_
  obtain ⟨g3, hyp⟩ := gd_n hyp
  refine V_iald (pc := 352) C dX12_worth_352 ak_114 g3 ?_
  cases hyp
  exact V_iret C dX12_worth_353
def F_X12_worth_b14 (N : Nat) : Nat → Int32 → Int32 → Int32 → PH → Option (Int32 × PH)
  | 0, _, _, _, _ => none
  | n + 1, x1, x2, x3, h =>
    if inb x1 26 = true then
    if (h.1 107 x1.toNatClampNeg) ≤ x3 then
      F_X12_worth_b342 N  h
    else
      if inb x3 4000 = true then
      ib (h.1 111 x3.toNatClampNeg) fun v4 =>
      if v4 = (28 : Int32) then
        F_X12_worth_b46 N (F_X12_worth_b14 N n) x1 x2 x3 v4 h
      else
        if v4 = (30 : Int32) then
          F_X12_worth_b46 N (F_X12_worth_b14 N n) x1 x2 x3 v4 h
        else
          if v4 = (20 : Int32) then
            F_X12_worth_b89 N (F_X12_worth_b14 N n) x1 x2 x3 v4 h
          else
            if v4 = (21 : Int32) then
              F_X12_worth_b89 N (F_X12_worth_b14 N n) x1 x2 x3 v4 h
            else
              if v4 = (22 : Int32) then
                if inb x2 7 = true then
                hb (hs h 121 x2.toNatClampNeg v4) fun h18 =>
                F_X12_worth_b336 N (F_X12_worth_b14 N n) x1 x2 x3 h18
                else none
              else
                if v4 = (24 : Int32) then
                  F_X12_worth_b137 N (F_X12_worth_b14 N n) x1 x2 x3 v4 h
                else
                  if v4 = (25 : Int32) then
                    F_X12_worth_b137 N (F_X12_worth_b14 N n) x1 x2 x3 v4 h
                  else
                    if v4 = (26 : Int32) then
                      F_X12_worth_b194 N (F_X12_worth_b14 N n) x1 x2 x3 v4 h
                    else
                      if v4 = (27 : Int32) then
                        F_X12_worth_b194 N (F_X12_worth_b14 N n) x1 x2 x3 v4 h
                      else
                        if v4 < (100 : Int32) then
                          if v4 < (20 : Int32) then
                            F_X12_worth_b239 N (F_X12_worth_b14 N n) x1 x2 x3 v4 h
                          else
                            if v4 < (40 : Int32) then
                              F_X12_worth_b250 N (F_X12_worth_b14 N n) x1 x2 x3 v4 (0 : Int32) h
                            else
                              F_X12_worth_b239 N (F_X12_worth_b14 N n) x1 x2 x3 v4 h
                        else
                          F_X12_worth_b250 N (F_X12_worth_b14 N n) x1 x2 x3 v4 (v4 - (100 : Int32)) h
      else none
    else none
set_option maxRecDepth 20000 in
set_option maxHeartbeats 4000000 in
theorem T_X12_worth_b14 {X : CT} (C : CX X 154 cX12_worth 6 RX12 (some .int) 2 43) {r0 : Int32} {h0 : PH} {N : Nat} : ∀ (n : Nat) (x1 : Int32) (x2 : Int32) (x3 : Int32) (h : PH), F_X12_worth_b14 N n x1 x2 x3 h = some (r0, h0) → V X (QI X r0 h0) h 14 [some (.ref 103), some (.int x1), some (.int x2), some (.int x3), none, none] [] := by
  intro n
  induction n with
  | zero =>
    intro x1 x2 x3 h hyp
    cases hyp
  | succ n ih =>
    intro x1 x2 x3 h hyp
    unfold F_X12_worth_b14 at hyp
    refine V_iload_n (pc := 14) C dX12_worth_14 rfl ?_
    refine V_aload_n (pc := 15) C dX12_worth_15 rfl ?_
    refine V_getR (pc := 16) C dX12_worth_16 lf_X12_24 fk_103_13 ?_
    refine V_iload_n (pc := 19) C dX12_worth_19 rfl ?_
    obtain ⟨g1, hyp⟩ := gd_n hyp
    refine V_iald (pc := 20) C dX12_worth_20 ak_107 g1 ?_
    refine V_icmp_ge (pc := 21) C dX12_worth_21 (tgt := 342) (by decide) (fun q2 => ?_) (fun q2 => ?_)
    · replace hyp := (if_pos q2).symm.trans hyp
      refine V_weak (lv' := [some (.ref 103), none, none, none, none, none]) (lvle_s (lvle_n (lvle_n (lvle_n (lvle_n (lvle_n lvle_0)))))) ?_
      exact (T_X12_worth_b342 C) h hyp
    · replace hyp := (if_neg q2).symm.trans hyp
      refine V_aload_n (pc := 24) C dX12_worth_24 rfl ?_
      refine V_getR (pc := 25) C dX12_worth_25 lf_X12_36 fk_103_17 ?_
      refine V_iload_n (pc := 28) C dX12_worth_28 rfl ?_
      obtain ⟨g3, hyp⟩ := gd_n hyp
      refine V_iald (pc := 29) C dX12_worth_29 ak_111 g3 ?_
      obtain ⟨v4, ev4, hyp⟩ := ib_n hyp
      refine V_topI ev4 ?_
      refine V_istore (pc := 30) C dX12_worth_30 (by decide) rfl ?_
      refine V_iload (pc := 32) C dX12_worth_32 rfl ?_
      refine V_bipush (pc := 34) C dX12_worth_34 (v := 28) (by decide) ?_
      refine V_icmp_eq (pc := 36) C dX12_worth_36 (tgt := 46) (by decide) (fun q5 => ?_) (fun q5 => ?_)
      · replace hyp := (if_pos q5).symm.trans hyp
        refine V_weak (lv' := [some (.ref 103), some (.int x1), some (.int x2), some (.int x3), some (.int v4), none]) (lvle_s (lvle_s (lvle_s (lvle_s (lvle_s (lvle_n lvle_0)))))) ?_
        exact (T_X12_worth_b46 C ih) x1 x2 x3 v4 h hyp
      · replace hyp := (if_neg q5).symm.trans hyp
        refine V_iload (pc := 39) C dX12_worth_39 rfl ?_
        refine V_bipush (pc := 41) C dX12_worth_41 (v := 30) (by decide) ?_
        refine V_icmp_ne (pc := 43) C dX12_worth_43 (tgt := 75) (by decide) (fun q6 => ?_) (fun q6 => ?_)
        · replace hyp := (if_neg q6).symm.trans hyp
          refine V_iload (pc := 75) C dX12_worth_75 rfl ?_
          refine V_bipush (pc := 77) C dX12_worth_77 (v := 20) (by decide) ?_
          refine V_icmp_eq (pc := 79) C dX12_worth_79 (tgt := 89) (by decide) (fun q7 => ?_) (fun q7 => ?_)
          · replace hyp := (if_pos q7).symm.trans hyp
            refine V_weak (lv' := [some (.ref 103), some (.int x1), some (.int x2), some (.int x3), some (.int v4), none]) (lvle_s (lvle_s (lvle_s (lvle_s (lvle_s (lvle_n lvle_0)))))) ?_
            exact (T_X12_worth_b89 C ih) x1 x2 x3 v4 h hyp
          · replace hyp := (if_neg q7).symm.trans hyp
            refine V_iload (pc := 82) C dX12_worth_82 rfl ?_
            refine V_bipush (pc := 84) C dX12_worth_84 (v := 21) (by decide) ?_
            refine V_icmp_ne (pc := 86) C dX12_worth_86 (tgt := 105) (by decide) (fun q8 => ?_) (fun q8 => ?_)
            · replace hyp := (if_neg q8).symm.trans hyp
              refine V_iload (pc := 105) C dX12_worth_105 rfl ?_
              refine V_bipush (pc := 107) C dX12_worth_107 (v := 22) (by decide) ?_
              refine V_icmp_ne (pc := 109) C dX12_worth_109 (tgt := 123) (by decide) (fun q9 => ?_) (fun q9 => ?_)
              · replace hyp := (if_neg q9).symm.trans hyp
                refine V_iload (pc := 123) C dX12_worth_123 rfl ?_
                refine V_bipush (pc := 125) C dX12_worth_125 (v := 24) (by decide) ?_
                refine V_icmp_eq (pc := 127) C dX12_worth_127 (tgt := 137) (by decide) (fun q10 => ?_) (fun q10 => ?_)
                · replace hyp := (if_pos q10).symm.trans hyp
                  refine V_weak (lv' := [some (.ref 103), some (.int x1), some (.int x2), some (.int x3), some (.int v4), none]) (lvle_s (lvle_s (lvle_s (lvle_s (lvle_s (lvle_n lvle_0)))))) ?_
                  exact (T_X12_worth_b137 C ih) x1 x2 x3 v4 h hyp
                · replace hyp := (if_neg q10).symm.trans hyp
                  refine V_iload (pc := 130) C dX12_worth_130 rfl ?_
                  refine V_bipush (pc := 132) C dX12_worth_132 (v := 25) (by decide) ?_
                  refine V_icmp_ne (pc := 134) C dX12_worth_134 (tgt := 180) (by decide) (fun q11 => ?_) (fun q11 => ?_)
                  · replace hyp := (if_neg q11).symm.trans hyp
                    refine V_iload (pc := 180) C dX12_worth_180 rfl ?_
                    refine V_bipush (pc := 182) C dX12_worth_182 (v := 26) (by decide) ?_
                    refine V_icmp_eq (pc := 184) C dX12_worth_184 (tgt := 194) (by decide) (fun q12 => ?_) (fun q12 => ?_)
                    · replace hyp := (if_pos q12).symm.trans hyp
                      refine V_weak (lv' := [some (.ref 103), some (.int x1), some (.int x2), some (.int x3), some (.int v4), none]) (lvle_s (lvle_s (lvle_s (lvle_s (lvle_s (lvle_n lvle_0)))))) ?_
                      exact (T_X12_worth_b194 C ih) x1 x2 x3 v4 h hyp
                    · replace hyp := (if_neg q12).symm.trans hyp
                      refine V_iload (pc := 187) C dX12_worth_187 rfl ?_
                      refine V_bipush (pc := 189) C dX12_worth_189 (v := 27) (by decide) ?_
                      refine V_icmp_ne (pc := 191) C dX12_worth_191 (tgt := 210) (by decide) (fun q13 => ?_) (fun q13 => ?_)
                      · replace hyp := (if_neg q13).symm.trans hyp
                        refine V_iload (pc := 210) C dX12_worth_210 rfl ?_
                        refine V_bipush (pc := 212) C dX12_worth_212 (v := 100) (by decide) ?_
                        refine V_icmp_lt (pc := 214) C dX12_worth_214 (tgt := 225) (by decide) (fun q14 => ?_) (fun q14 => ?_)
                        · replace hyp := (if_pos q14).symm.trans hyp
                          refine V_iload (pc := 225) C dX12_worth_225 rfl ?_
                          refine V_bipush (pc := 227) C dX12_worth_227 (v := 20) (by decide) ?_
                          refine V_icmp_lt (pc := 229) C dX12_worth_229 (tgt := 239) (by decide) (fun q15 => ?_) (fun q15 => ?_)
                          · replace hyp := (if_pos q15).symm.trans hyp
                            refine V_weak (lv' := [some (.ref 103), some (.int x1), some (.int x2), some (.int x3), some (.int v4), none]) (lvle_s (lvle_s (lvle_s (lvle_s (lvle_s (lvle_n lvle_0)))))) ?_
                            exact (T_X12_worth_b239 C ih) x1 x2 x3 v4 h hyp
                          · replace hyp := (if_neg q15).symm.trans hyp
                            refine V_iload (pc := 232) C dX12_worth_232 rfl ?_
                            refine V_bipush (pc := 234) C dX12_worth_234 (v := 40) (by decide) ?_
                            refine V_icmp_lt (pc := 236) C dX12_worth_236 (tgt := 249) (by decide) (fun q16 => ?_) (fun q16 => ?_)
                            · replace hyp := (if_pos q16).symm.trans hyp
                              refine V_iconst (pc := 249) C dX12_worth_249 (v := 0) (by decide) ?_
                              refine V_weak (lv' := [some (.ref 103), some (.int x1), some (.int x2), some (.int x3), some (.int v4), none]) (lvle_s (lvle_s (lvle_s (lvle_s (lvle_s (lvle_n lvle_0)))))) ?_
                              exact (T_X12_worth_b250 C ih) x1 x2 x3 v4 (0 : Int32) h hyp
                            · replace hyp := (if_neg q16).symm.trans hyp
                              refine V_weak (lv' := [some (.ref 103), some (.int x1), some (.int x2), some (.int x3), some (.int v4), none]) (lvle_s (lvle_s (lvle_s (lvle_s (lvle_s (lvle_n lvle_0)))))) ?_
                              exact (T_X12_worth_b239 C ih) x1 x2 x3 v4 h hyp
                        · replace hyp := (if_neg q14).symm.trans hyp
                          refine V_iload (pc := 217) C dX12_worth_217 rfl ?_
                          refine V_bipush (pc := 219) C dX12_worth_219 (v := 100) (by decide) ?_
                          refine V_isub (pc := 221) C dX12_worth_221 ?_
                          refine V_goto (pc := 222) C dX12_worth_222 (tgt := 250) (by decide) ?_
                          refine V_weak (lv' := [some (.ref 103), some (.int x1), some (.int x2), some (.int x3), some (.int v4), none]) (lvle_s (lvle_s (lvle_s (lvle_s (lvle_s (lvle_n lvle_0)))))) ?_
                          exact (T_X12_worth_b250 C ih) x1 x2 x3 v4 (v4 - (100 : Int32)) h hyp
                      · replace hyp := (if_pos q13).symm.trans hyp
                        refine V_weak (lv' := [some (.ref 103), some (.int x1), some (.int x2), some (.int x3), some (.int v4), none]) (lvle_s (lvle_s (lvle_s (lvle_s (lvle_s (lvle_n lvle_0)))))) ?_
                        exact (T_X12_worth_b194 C ih) x1 x2 x3 v4 h hyp
                  · replace hyp := (if_pos q11).symm.trans hyp
                    refine V_weak (lv' := [some (.ref 103), some (.int x1), some (.int x2), some (.int x3), some (.int v4), none]) (lvle_s (lvle_s (lvle_s (lvle_s (lvle_s (lvle_n lvle_0)))))) ?_
                    exact (T_X12_worth_b137 C ih) x1 x2 x3 v4 h hyp
              · replace hyp := (if_pos q9).symm.trans hyp
                refine V_aload_n (pc := 112) C dX12_worth_112 rfl ?_
                refine V_getR (pc := 113) C dX12_worth_113 lf_X12_66 fk_103_30 ?_
                refine V_iload_n (pc := 116) C dX12_worth_116 rfl ?_
                refine V_iload (pc := 117) C dX12_worth_117 rfl ?_
                obtain ⟨g17, hyp⟩ := gd_n hyp
                obtain ⟨h18, eh18, hyp⟩ := hb_n hyp
                refine V_iast (pc := 119) C dX12_worth_119 ak_121 g17 eh18 ?_
                refine V_goto (pc := 120) C dX12_worth_120 (tgt := 336) (by decide) ?_
                refine V_weak (lv' := [some (.ref 103), some (.int x1), some (.int x2), some (.int x3), none, none]) (lvle_s (lvle_s (lvle_s (lvle_s (lvle_n (lvle_n lvle_0)))))) ?_
                exact (T_X12_worth_b336 C ih) x1 x2 x3 h18 hyp
            · replace hyp := (if_pos q8).symm.trans hyp
              refine V_weak (lv' := [some (.ref 103), some (.int x1), some (.int x2), some (.int x3), some (.int v4), none]) (lvle_s (lvle_s (lvle_s (lvle_s (lvle_s (lvle_n lvle_0)))))) ?_
              exact (T_X12_worth_b89 C ih) x1 x2 x3 v4 h hyp
        · replace hyp := (if_pos q6).symm.trans hyp
          refine V_weak (lv' := [some (.ref 103), some (.int x1), some (.int x2), some (.int x3), some (.int v4), none]) (lvle_s (lvle_s (lvle_s (lvle_s (lvle_s (lvle_n lvle_0)))))) ?_
          exact (T_X12_worth_b46 C ih) x1 x2 x3 v4 h hyp
def F_X12_worth (N : Nat) (a1 : Int32) (h : PH) : Option (Int32 × PH) :=
  bV (F_X12_opens (0 : Int32) h) fun h2 =>
  if inb a1 26 = true then
  ib (h2.1 106 a1.toNatClampNeg) fun v4 =>
  F_X12_worth_b14 N N a1 (0 : Int32) v4 h2
  else none
set_option maxRecDepth 20000 in
set_option maxHeartbeats 4000000 in
theorem M_X12_worth (E : EV) {N : Nat} {a1 : Int32} {r : Int32} {h h2 : PH} (hyp : F_X12_worth N a1 h = some (r, h2)) : MI E 154 yX12_worth cX12_worth 6 (some .int) 2 43 [.ref 103, .int a1] h r h2 := by
  refine MI.of 4 (by decide) rfl (fun X e1 C => ?_)
  subst e1
  replace C : CX X 154 cX12_worth 6 RX12 (some .int) 2 43 := C
  show V X _ h 0 [some (.ref 103), some (.int a1), none, none, none, none] []
  unfold F_X12_worth at hyp
  refine V_iconst (pc := 0) C dX12_worth_0 (v := 0) (by decide) ?_
  refine V_istore_n (pc := 1) C dX12_worth_1 (by decide) rfl ?_
  refine V_aload_n (pc := 2) C dX12_worth_2 rfl ?_
  refine V_iconst (pc := 3) C dX12_worth_3 (v := 0) (by decide) ?_
  obtain ⟨h2, eh2, hyp⟩ := bV_n hyp
  refine V_callV (pc := 4) C dX12_worth_4 lm_X12_342 mk_X12_opens ok_103 rfl (M_X12_opens _ eh2) rfl pd_X12_opens (by decide) (by decide) (by decide) (As := [.int (0 : Int32)]) (rest := []) rfl (Nat.le_of_ble_eq_true rfl) ?_
  refine V_aload_n (pc := 7) C dX12_worth_7 rfl ?_
  refine V_getR (pc := 8) C dX12_worth_8 lf_X12_21 fk_103_12 ?_
  refine V_iload_n (pc := 11) C dX12_worth_11 rfl ?_
  obtain ⟨g3, hyp⟩ := gd_n hyp
  refine V_iald (pc := 12) C dX12_worth_12 ak_106 g3 ?_
  obtain ⟨v4, ev4, hyp⟩ := ib_n hyp
  refine V_topI ev4 ?_
  refine V_istore_n (pc := 13) C dX12_worth_13 (by decide) rfl ?_
  refine V_weak (lv' := [some (.ref 103), some (.int a1), some (.int (0 : Int32)), some (.int v4), none, none]) (lvle_s (lvle_s (lvle_s (lvle_s (lvle_n (lvle_n lvle_0)))))) ?_
  exact (T_X12_worth_b14 C) N a1 (0 : Int32) v4 h2 hyp
theorem dX12_floorOf_0 : decode cX12_floorOf 0 = .ok (.iload_n 0, 1) := by decide +kernel
theorem dX12_floorOf_1 : decode cX12_floorOf 1 = .ok (.sipush 256, 3) := by decide +kernel
theorem dX12_floorOf_4 : decode cX12_floorOf 4 = .ok (.idiv, 1) := by decide +kernel
theorem dX12_floorOf_5 : decode cX12_floorOf 5 = .ok (.bipush 6, 2) := by decide +kernel
theorem dX12_floorOf_7 : decode cX12_floorOf 7 = .ok (.irem, 1) := by decide +kernel
theorem dX12_floorOf_8 : decode cX12_floorOf 8 = .ok (.ireturn, 1) := by decide +kernel
def F_X12_floorOf (a1 : Int32) (h : PH) : Option (Int32 × PH) :=
  some ((a1 / (256 : Int32)) - (a1 / (256 : Int32)) / (6 : Int32) * (6 : Int32), h)
set_option maxRecDepth 20000 in
set_option maxHeartbeats 4000000 in
theorem M_X12_floorOf (E : EV) {a1 : Int32} {r : Int32} {h h2 : PH} (hyp : F_X12_floorOf a1 h = some (r, h2)) : MI E 154 yX12_floorOf cX12_floorOf 1 (some .int) 0 0 [.int a1] h r h2 := by
  refine MI.of 0 (by decide) rfl (fun X e1 C => ?_)
  subst e1
  replace C : CX X 154 cX12_floorOf 1 RX12 (some .int) 0 0 := C
  show V X _ h 0 [some (.int a1)] []
  unfold F_X12_floorOf at hyp
  refine V_iload_n (pc := 0) C dX12_floorOf_0 rfl ?_
  refine V_sipush (pc := 1) C dX12_floorOf_1 (v := 256) (by decide) ?_
  refine V_idiv (pc := 4) C dX12_floorOf_4 (by decide) ?_
  refine V_bipush (pc := 5) C dX12_floorOf_5 (v := 6) (by decide) ?_
  refine V_irem (pc := 7) C dX12_floorOf_7 (by decide) ?_
  cases hyp
  exact V_iret C dX12_floorOf_8
theorem dX12_isOpen_0 : decode cX12_isOpen 0 = .ok (.iload_n 0, 1) := by decide +kernel
theorem dX12_isOpen_1 : decode cX12_isOpen 1 = .ok (.sipush 1536, 3) := by decide +kernel
theorem dX12_isOpen_4 : decode cX12_isOpen 4 = .ok (.if_icmp .lt 7, 3) := by decide +kernel
theorem dX12_isOpen_7 : decode cX12_isOpen 7 = .ok (.iconst 1, 1) := by decide +kernel
theorem dX12_isOpen_8 : decode cX12_isOpen 8 = .ok (.goto 4, 3) := by decide +kernel
theorem dX12_isOpen_11 : decode cX12_isOpen 11 = .ok (.iconst 0, 1) := by decide +kernel
theorem dX12_isOpen_12 : decode cX12_isOpen 12 = .ok (.ireturn, 1) := by decide +kernel
def F_X12_isOpen (a1 : Int32) (h : PH) : Option (Int32 × PH) :=
  if a1 < (1536 : Int32) then
    some ((0 : Int32), h)
  else
    some ((1 : Int32), h)
set_option maxRecDepth 20000 in
set_option maxHeartbeats 4000000 in
theorem M_X12_isOpen (E : EV) {a1 : Int32} {r : Int32} {h h2 : PH} (hyp : F_X12_isOpen a1 h = some (r, h2)) : MI E 154 yX12_isOpen cX12_isOpen 1 (some .boolean) 0 0 [.int a1] h r h2 := by
  refine MI.of 0 (by decide) rfl (fun X e1 C => ?_)
  subst e1
  replace C : CX X 154 cX12_isOpen 1 RX12 (some .boolean) 0 0 := C
  show V X _ h 0 [some (.int a1)] []
  unfold F_X12_isOpen at hyp
  refine V_iload_n (pc := 0) C dX12_isOpen_0 rfl ?_
  refine V_sipush (pc := 1) C dX12_isOpen_1 (v := 1536) (by decide) ?_
  refine V_icmp_lt (pc := 4) C dX12_isOpen_4 (tgt := 11) (by decide) (fun q1 => ?_) (fun q1 => ?_)
  · replace hyp := (if_pos q1).symm.trans hyp
    refine V_iconst (pc := 11) C dX12_isOpen_11 (v := 0) (by decide) ?_
    cases hyp
    exact V_zret C dX12_isOpen_12 rfl
  · replace hyp := (if_neg q1).symm.trans hyp
    refine V_iconst (pc := 7) C dX12_isOpen_7 (v := 1) (by decide) ?_
    refine V_goto (pc := 8) C dX12_isOpen_8 (tgt := 12) (by decide) ?_
    cases hyp
    exact V_zret C dX12_isOpen_12 rfl
theorem dX12_isSo_0 : decode cX12_isSo 0 = .ok (.aload_n 0, 1) := by decide +kernel
theorem dX12_isSo_1 : decode cX12_isSo 1 = .ok (.getfield 17, 3) := by decide +kernel
theorem dX12_isSo_4 : decode cX12_isSo 4 = .ok (.iload_n 1, 1) := by decide +kernel
theorem dX12_isSo_5 : decode cX12_isSo 5 = .ok (.baload, 1) := by decide +kernel
theorem dX12_isSo_6 : decode cX12_isSo 6 = .ok (.ifCond .eq 15, 3) := by decide +kernel
theorem dX12_isSo_9 : decode cX12_isSo 9 = .ok (.aload_n 0, 1) := by decide +kernel
theorem dX12_isSo_10 : decode cX12_isSo 10 = .ok (.iload_n 1, 1) := by decide +kernel
theorem dX12_isSo_11 : decode cX12_isSo 11 = .ok (.invokevirtual 357, 3) := by decide +kernel
theorem dX12_isSo_14 : decode cX12_isSo 14 = .ok (.ifCond .eq 7, 3) := by decide +kernel
theorem dX12_isSo_17 : decode cX12_isSo 17 = .ok (.iconst 1, 1) := by decide +kernel
theorem dX12_isSo_18 : decode cX12_isSo 18 = .ok (.goto 4, 3) := by decide +kernel
theorem dX12_isSo_21 : decode cX12_isSo 21 = .ok (.iconst 0, 1) := by decide +kernel
theorem dX12_isSo_22 : decode cX12_isSo 22 = .ok (.ireturn, 1) := by decide +kernel
def F_X12_isSo_b21 (N : Nat) (h : PH) : Option (Int32 × PH) :=
  some ((0 : Int32), h)
set_option maxRecDepth 20000 in
set_option maxHeartbeats 4000000 in
theorem T_X12_isSo_b21 {X : CT} (C : CX X 154 cX12_isSo 2 RX12 (some .boolean) 3 68) {r0 : Int32} {h0 : PH} {N : Nat} : ∀ (h : PH), F_X12_isSo_b21 N  h = some (r0, h0) → V X (QI X r0 h0) h 21 [none, none] [] := by
  intro  h hyp
  unfold F_X12_isSo_b21 at hyp
  refine V_iconst (pc := 21) C dX12_isSo_21 (v := 0) (by decide) ?_
  cases hyp
  exact V_zret C dX12_isSo_22 rfl
def F_X12_isSo (N : Nat) (a1 : Int32) (h : PH) : Option (Int32 × PH) :=
  if inb a1 26 = true then
  if (h.1 105 a1.toNatClampNeg) = 0 then
    F_X12_isSo_b21 N  h
  else
    bI (F_X12_worth N a1 h) fun r3 h4 =>
    if r3 = 0 then
      F_X12_isSo_b21 N  h4
    else
      some ((1 : Int32), h4)
  else none
set_option maxRecDepth 20000 in
set_option maxHeartbeats 4000000 in
theorem M_X12_isSo (E : EV) {N : Nat} {a1 : Int32} {r : Int32} {h h2 : PH} (hyp : F_X12_isSo N a1 h = some (r, h2)) : MI E 154 yX12_isSo cX12_isSo 2 (some .boolean) 3 68 [.ref 103, .int a1] h r h2 := by
  refine MI.of 0 (by decide) rfl (fun X e1 C => ?_)
  subst e1
  replace C : CX X 154 cX12_isSo 2 RX12 (some .boolean) 3 68 := C
  show V X _ h 0 [some (.ref 103), some (.int a1)] []
  unfold F_X12_isSo at hyp
  refine V_aload_n (pc := 0) C dX12_isSo_0 rfl ?_
  refine V_getR (pc := 1) C dX12_isSo_1 lf_X12_17 fk_103_11 ?_
  refine V_iload_n (pc := 4) C dX12_isSo_4 rfl ?_
  obtain ⟨g1, hyp⟩ := gd_n hyp
  refine V_zald (pc := 5) C dX12_isSo_5 ak_105 g1 ?_
  refine V_if_eq (pc := 6) C dX12_isSo_6 (tgt := 21) (by decide) (fun q2 => ?_) (fun q2 => ?_)
  · replace hyp := (if_pos q2).symm.trans hyp
    refine V_weak (lv' := [none, none]) (lvle_n (lvle_n lvle_0)) ?_
    exact (T_X12_isSo_b21 C) h hyp
  · replace hyp := (if_neg q2).symm.trans hyp
    refine V_aload_n (pc := 9) C dX12_isSo_9 rfl ?_
    refine V_iload_n (pc := 10) C dX12_isSo_10 rfl ?_
    obtain ⟨r3, h4, eh4, hyp⟩ := bI_n hyp
    refine V_callI (pc := 11) C dX12_isSo_11 lm_X12_357 mk_X12_worth ok_103 rfl (M_X12_worth _ eh4) rfl pd_X12_worth (by decide) (by decide) (by decide) (As := [.int a1]) (rest := []) rfl (Nat.le_of_ble_eq_true rfl) ?_
    refine V_if_eq (pc := 14) C dX12_isSo_14 (tgt := 21) (by decide) (fun q5 => ?_) (fun q5 => ?_)
    · replace hyp := (if_pos q5).symm.trans hyp
      refine V_weak (lv' := [none, none]) (lvle_n (lvle_n lvle_0)) ?_
      exact (T_X12_isSo_b21 C) h4 hyp
    · replace hyp := (if_neg q5).symm.trans hyp
      refine V_iconst (pc := 17) C dX12_isSo_17 (v := 1) (by decide) ?_
      refine V_goto (pc := 18) C dX12_isSo_18 (tgt := 22) (by decide) ?_
      cases hyp
      exact V_zret C dX12_isSo_22 rfl
theorem dX12_sets_0 : decode cX12_sets 0 = .ok (.iconst 0, 1) := by decide +kernel
theorem dX12_sets_1 : decode cX12_sets 1 = .ok (.istore 4, 2) := by decide +kernel
theorem dX12_sets_3 : decode cX12_sets 3 = .ok (.iload 4, 2) := by decide +kernel
theorem dX12_sets_5 : decode cX12_sets 5 = .ok (.bipush 8, 2) := by decide +kernel
theorem dX12_sets_7 : decode cX12_sets 7 = .ok (.if_icmp .ge 24, 3) := by decide +kernel
theorem dX12_sets_10 : decode cX12_sets 10 = .ok (.aload_n 0, 1) := by decide +kernel
theorem dX12_sets_11 : decode cX12_sets 11 = .ok (.getfield 72, 3) := by decide +kernel
theorem dX12_sets_14 : decode cX12_sets 14 = .ok (.iconst 1, 1) := by decide +kernel
theorem dX12_sets_15 : decode cX12_sets 15 = .ok (.iload 4, 2) := by decide +kernel
theorem dX12_sets_17 : decode cX12_sets 17 = .ok (.iadd, 1) := by decide +kernel
theorem dX12_sets_18 : decode cX12_sets 18 = .ok (.iload_n 2, 1) := by decide +kernel
theorem dX12_sets_19 : decode cX12_sets 19 = .ok (.iload 4, 2) := by decide +kernel
theorem dX12_sets_21 : decode cX12_sets 21 = .ok (.ishr, 1) := by decide +kernel
theorem dX12_sets_22 : decode cX12_sets 22 = .ok (.iconst 1, 1) := by decide +kernel
theorem dX12_sets_23 : decode cX12_sets 23 = .ok (.iand, 1) := by decide +kernel
theorem dX12_sets_24 : decode cX12_sets 24 = .ok (.iastore, 1) := by decide +kernel
theorem dX12_sets_25 : decode cX12_sets 25 = .ok (.iinc 4 1, 3) := by decide +kernel
theorem dX12_sets_28 : decode cX12_sets 28 = .ok (.goto (-25), 3) := by decide +kernel
theorem dX12_sets_31 : decode cX12_sets 31 = .ok (.aload_n 0, 1) := by decide +kernel
theorem dX12_sets_32 : decode cX12_sets 32 = .ok (.getfield 72, 3) := by decide +kernel
theorem dX12_sets_35 : decode cX12_sets 35 = .ok (.bipush 9, 2) := by decide +kernel
theorem dX12_sets_37 : decode cX12_sets 37 = .ok (.iload_n 1, 1) := by decide +kernel
theorem dX12_sets_38 : decode cX12_sets 38 = .ok (.invokestatic 360, 3) := by decide +kernel
theorem dX12_sets_41 : decode cX12_sets 41 = .ok (.ifCond .eq 7, 3) := by decide +kernel
theorem dX12_sets_44 : decode cX12_sets 44 = .ok (.iconst 1, 1) := by decide +kernel
theorem dX12_sets_45 : decode cX12_sets 45 = .ok (.goto 4, 3) := by decide +kernel
theorem dX12_sets_48 : decode cX12_sets 48 = .ok (.iconst 0, 1) := by decide +kernel
theorem dX12_sets_49 : decode cX12_sets 49 = .ok (.iastore, 1) := by decide +kernel
theorem dX12_sets_50 : decode cX12_sets 50 = .ok (.aload_n 0, 1) := by decide +kernel
theorem dX12_sets_51 : decode cX12_sets 51 = .ok (.getfield 72, 3) := by decide +kernel
theorem dX12_sets_54 : decode cX12_sets 54 = .ok (.bipush 10, 2) := by decide +kernel
theorem dX12_sets_56 : decode cX12_sets 56 = .ok (.iload_n 3, 1) := by decide +kernel
theorem dX12_sets_57 : decode cX12_sets 57 = .ok (.ifCond .lt 7, 3) := by decide +kernel
theorem dX12_sets_60 : decode cX12_sets 60 = .ok (.iconst 1, 1) := by decide +kernel
theorem dX12_sets_61 : decode cX12_sets 61 = .ok (.goto 4, 3) := by decide +kernel
theorem dX12_sets_64 : decode cX12_sets 64 = .ok (.iconst 0, 1) := by decide +kernel
theorem dX12_sets_65 : decode cX12_sets 65 = .ok (.iastore, 1) := by decide +kernel
theorem dX12_sets_66 : decode cX12_sets 66 = .ok (.iconst 0, 1) := by decide +kernel
theorem dX12_sets_67 : decode cX12_sets 67 = .ok (.istore 4, 2) := by decide +kernel
theorem dX12_sets_69 : decode cX12_sets 69 = .ok (.iload 4, 2) := by decide +kernel
theorem dX12_sets_71 : decode cX12_sets 71 = .ok (.bipush 6, 2) := by decide +kernel
theorem dX12_sets_73 : decode cX12_sets 73 = .ok (.if_icmp .ge 54, 3) := by decide +kernel
theorem dX12_sets_76 : decode cX12_sets 76 = .ok (.aload_n 0, 1) := by decide +kernel
theorem dX12_sets_77 : decode cX12_sets 77 = .ok (.getfield 72, 3) := by decide +kernel
theorem dX12_sets_80 : decode cX12_sets 80 = .ok (.bipush 40, 2) := by decide +kernel
theorem dX12_sets_82 : decode cX12_sets 82 = .ok (.iload 4, 2) := by decide +kernel
theorem dX12_sets_84 : decode cX12_sets 84 = .ok (.iadd, 1) := by decide +kernel
theorem dX12_sets_85 : decode cX12_sets 85 = .ok (.iload_n 3, 1) := by decide +kernel
theorem dX12_sets_86 : decode cX12_sets 86 = .ok (.iload 4, 2) := by decide +kernel
theorem dX12_sets_88 : decode cX12_sets 88 = .ok (.if_icmp .ne 7, 3) := by decide +kernel
theorem dX12_sets_91 : decode cX12_sets 91 = .ok (.iconst 1, 1) := by decide +kernel
theorem dX12_sets_92 : decode cX12_sets 92 = .ok (.goto 4, 3) := by decide +kernel
theorem dX12_sets_95 : decode cX12_sets 95 = .ok (.iconst 0, 1) := by decide +kernel
theorem dX12_sets_96 : decode cX12_sets 96 = .ok (.iastore, 1) := by decide +kernel
theorem dX12_sets_97 : decode cX12_sets 97 = .ok (.aload_n 0, 1) := by decide +kernel
theorem dX12_sets_98 : decode cX12_sets 98 = .ok (.getfield 72, 3) := by decide +kernel
theorem dX12_sets_101 : decode cX12_sets 101 = .ok (.bipush 50, 2) := by decide +kernel
theorem dX12_sets_103 : decode cX12_sets 103 = .ok (.iload 4, 2) := by decide +kernel
theorem dX12_sets_105 : decode cX12_sets 105 = .ok (.iadd, 1) := by decide +kernel
theorem dX12_sets_106 : decode cX12_sets 106 = .ok (.iload_n 1, 1) := by decide +kernel
theorem dX12_sets_107 : decode cX12_sets 107 = .ok (.invokestatic 363, 3) := by decide +kernel
theorem dX12_sets_110 : decode cX12_sets 110 = .ok (.iload 4, 2) := by decide +kernel
theorem dX12_sets_112 : decode cX12_sets 112 = .ok (.if_icmp .ne 7, 3) := by decide +kernel
theorem dX12_sets_115 : decode cX12_sets 115 = .ok (.iconst 1, 1) := by decide +kernel
theorem dX12_sets_116 : decode cX12_sets 116 = .ok (.goto 4, 3) := by decide +kernel
theorem dX12_sets_119 : decode cX12_sets 119 = .ok (.iconst 0, 1) := by decide +kernel
theorem dX12_sets_120 : decode cX12_sets 120 = .ok (.iastore, 1) := by decide +kernel
theorem dX12_sets_121 : decode cX12_sets 121 = .ok (.iinc 4 1, 3) := by decide +kernel
theorem dX12_sets_124 : decode cX12_sets 124 = .ok (.goto (-55), 3) := by decide +kernel
theorem dX12_sets_127 : decode cX12_sets 127 = .ok (.return_, 1) := by decide +kernel
def F_X12_sets_b120 (N : Nat) (rc69 : Int32 → Int32 → Int32 → PH → Option PH) (x1 : Int32) (x3 : Int32) (x4 : Int32) (s0 : Int32) (s1 : Int32) (h : PH) : Option PH :=
  if inb s1 60 = true then
  hb (hs h 123 s1.toNatClampNeg s0) fun h2 =>
  ib (x4 + (1 : Int32)) fun v3 =>
  rc69 x1 x3 v3 h2
  else none
set_option maxRecDepth 20000 in
set_option maxHeartbeats 4000000 in
theorem T_X12_sets_b120 {X : CT} (C : CX X 154 cX12_sets 5 RX12 none 1 20) {h0 : PH} {N : Nat} {rc69 : Int32 → Int32 → Int32 → PH → Option PH} (hr69 : ∀ (x1 : Int32) (x3 : Int32) (x4 : Int32) (h : PH), rc69 x1 x3 x4 h = some h0 → V X (QV X h0) h 69 [some (.ref 103), some (.int x1), none, some (.int x3), some (.int x4)] []) : ∀ (x1 : Int32) (x3 : Int32) (x4 : Int32) (s0 : Int32) (s1 : Int32) (h : PH), F_X12_sets_b120 N rc69 x1 x3 x4 s0 s1 h = some h0 → V X (QV X h0) h 120 [some (.ref 103), some (.int x1), none, some (.int x3), some (.int x4)] [.int s0, .int s1, .ref 123] := by
  intro x1 x3 x4 s0 s1 h hyp
  unfold F_X12_sets_b120 at hyp
  obtain ⟨g1, hyp⟩ := gd_n hyp
  obtain ⟨h2, eh2, hyp⟩ := hb_n hyp
  refine V_iast (pc := 120) C dX12_sets_120 ak_123 g1 eh2 ?_
  obtain ⟨v3, ev3, hyp⟩ := ib_n hyp
  refine V_iinc (pc := 121) C dX12_sets_121 (v := v3) rfl (by rw [ev3]; rfl) (by decide) rfl ?_
  refine V_goto (pc := 124) C dX12_sets_124 (tgt := 69) (by decide) ?_
  refine V_weak (lv' := [some (.ref 103), some (.int x1), none, some (.int x3), some (.int v3)]) (lvle_s (lvle_s (lvle_n (lvle_s (lvle_s lvle_0))))) ?_
  exact hr69 x1 x3 v3 h2 hyp
def F_X12_sets_b96 (N : Nat) (rc69 : Int32 → Int32 → Int32 → PH → Option PH) (x1 : Int32) (x3 : Int32) (x4 : Int32) (s0 : Int32) (s1 : Int32) (h : PH) : Option PH :=
  if inb s1 60 = true then
  hb (hs h 123 s1.toNatClampNeg s0) fun h2 =>
  bI (F_X12_floorOf x1 h2) fun r3 h4 =>
  if r3 = x4 then
    F_X12_sets_b120 N rc69 x1 x3 x4 (1 : Int32) ((50 : Int32) + x4) h4
  else
    F_X12_sets_b120 N rc69 x1 x3 x4 (0 : Int32) ((50 : Int32) + x4) h4
  else none
set_option maxRecDepth 20000 in
set_option maxHeartbeats 4000000 in
theorem T_X12_sets_b96 {X : CT} (C : CX X 154 cX12_sets 5 RX12 none 1 20) {h0 : PH} {N : Nat} {rc69 : Int32 → Int32 → Int32 → PH → Option PH} (hr69 : ∀ (x1 : Int32) (x3 : Int32) (x4 : Int32) (h : PH), rc69 x1 x3 x4 h = some h0 → V X (QV X h0) h 69 [some (.ref 103), some (.int x1), none, some (.int x3), some (.int x4)] []) : ∀ (x1 : Int32) (x3 : Int32) (x4 : Int32) (s0 : Int32) (s1 : Int32) (h : PH), F_X12_sets_b96 N rc69 x1 x3 x4 s0 s1 h = some h0 → V X (QV X h0) h 96 [some (.ref 103), some (.int x1), none, some (.int x3), some (.int x4)] [.int s0, .int s1, .ref 123] := by
  intro x1 x3 x4 s0 s1 h hyp
  unfold F_X12_sets_b96 at hyp
  obtain ⟨g1, hyp⟩ := gd_n hyp
  obtain ⟨h2, eh2, hyp⟩ := hb_n hyp
  refine V_iast (pc := 96) C dX12_sets_96 ak_123 g1 eh2 ?_
  refine V_aload_n (pc := 97) C dX12_sets_97 rfl ?_
  refine V_getR (pc := 98) C dX12_sets_98 lf_X12_72 fk_103_32 ?_
  refine V_bipush (pc := 101) C dX12_sets_101 (v := 50) (by decide) ?_
  refine V_iload (pc := 103) C dX12_sets_103 rfl ?_
  refine V_iadd (pc := 105) C dX12_sets_105 ?_
  refine V_iload_n (pc := 106) C dX12_sets_106 rfl ?_
  obtain ⟨r3, h4, eh4, hyp⟩ := bI_n hyp
  refine V_statI (pc := 107) C dX12_sets_107 lm_X12_363 ms_X12_floorOf (M_X12_floorOf _ eh4) rfl pd_X12_floorOf (by decide) (by decide) (by decide) (As := [.int x1]) (rest := [.int ((50 : Int32) + x4), .ref 123]) rfl (Nat.le_of_ble_eq_true rfl) ?_
  refine V_iload (pc := 110) C dX12_sets_110 rfl ?_
  refine V_icmp_ne (pc := 112) C dX12_sets_112 (tgt := 119) (by decide) (fun q5 => ?_) (fun q5 => ?_)
  · replace hyp := (if_neg q5).symm.trans hyp
    refine V_iconst (pc := 119) C dX12_sets_119 (v := 0) (by decide) ?_
    refine V_weak (lv' := [some (.ref 103), some (.int x1), none, some (.int x3), some (.int x4)]) (lvle_s (lvle_s (lvle_n (lvle_s (lvle_s lvle_0))))) ?_
    exact (T_X12_sets_b120 C hr69) x1 x3 x4 (0 : Int32) ((50 : Int32) + x4) h4 hyp
  · replace hyp := (if_pos q5).symm.trans hyp
    refine V_iconst (pc := 115) C dX12_sets_115 (v := 1) (by decide) ?_
    refine V_goto (pc := 116) C dX12_sets_116 (tgt := 120) (by decide) ?_
    refine V_weak (lv' := [some (.ref 103), some (.int x1), none, some (.int x3), some (.int x4)]) (lvle_s (lvle_s (lvle_n (lvle_s (lvle_s lvle_0))))) ?_
    exact (T_X12_sets_b120 C hr69) x1 x3 x4 (1 : Int32) ((50 : Int32) + x4) h4 hyp
def F_X12_sets_b69 (N : Nat) : Nat → Int32 → Int32 → Int32 → PH → Option PH
  | 0, _, _, _, _ => none
  | n + 1, x1, x3, x4, h =>
    if (6 : Int32) ≤ x4 then
      some h
    else
      if x3 = x4 then
        F_X12_sets_b96 N (F_X12_sets_b69 N n) x1 x3 x4 (1 : Int32) ((40 : Int32) + x4) h
      else
        F_X12_sets_b96 N (F_X12_sets_b69 N n) x1 x3 x4 (0 : Int32) ((40 : Int32) + x4) h
set_option maxRecDepth 20000 in
set_option maxHeartbeats 4000000 in
theorem T_X12_sets_b69 {X : CT} (C : CX X 154 cX12_sets 5 RX12 none 1 20) {h0 : PH} {N : Nat} : ∀ (n : Nat) (x1 : Int32) (x3 : Int32) (x4 : Int32) (h : PH), F_X12_sets_b69 N n x1 x3 x4 h = some h0 → V X (QV X h0) h 69 [some (.ref 103), some (.int x1), none, some (.int x3), some (.int x4)] [] := by
  intro n
  induction n with
  | zero =>
    intro x1 x3 x4 h hyp
    cases hyp
  | succ n ih =>
    intro x1 x3 x4 h hyp
    unfold F_X12_sets_b69 at hyp
    refine V_iload (pc := 69) C dX12_sets_69 rfl ?_
    refine V_bipush (pc := 71) C dX12_sets_71 (v := 6) (by decide) ?_
    refine V_icmp_ge (pc := 73) C dX12_sets_73 (tgt := 127) (by decide) (fun q1 => ?_) (fun q1 => ?_)
    · replace hyp := (if_pos q1).symm.trans hyp
      cases hyp
      exact V_vret C dX12_sets_127
    · replace hyp := (if_neg q1).symm.trans hyp
      refine V_aload_n (pc := 76) C dX12_sets_76 rfl ?_
      refine V_getR (pc := 77) C dX12_sets_77 lf_X12_72 fk_103_32 ?_
      refine V_bipush (pc := 80) C dX12_sets_80 (v := 40) (by decide) ?_
      refine V_iload (pc := 82) C dX12_sets_82 rfl ?_
      refine V_iadd (pc := 84) C dX12_sets_84 ?_
      refine V_iload_n (pc := 85) C dX12_sets_85 rfl ?_
      refine V_iload (pc := 86) C dX12_sets_86 rfl ?_
      refine V_icmp_ne (pc := 88) C dX12_sets_88 (tgt := 95) (by decide) (fun q2 => ?_) (fun q2 => ?_)
      · replace hyp := (if_neg q2).symm.trans hyp
        refine V_iconst (pc := 95) C dX12_sets_95 (v := 0) (by decide) ?_
        refine V_weak (lv' := [some (.ref 103), some (.int x1), none, some (.int x3), some (.int x4)]) (lvle_s (lvle_s (lvle_n (lvle_s (lvle_s lvle_0))))) ?_
        exact (T_X12_sets_b96 C ih) x1 x3 x4 (0 : Int32) ((40 : Int32) + x4) h hyp
      · replace hyp := (if_pos q2).symm.trans hyp
        refine V_iconst (pc := 91) C dX12_sets_91 (v := 1) (by decide) ?_
        refine V_goto (pc := 92) C dX12_sets_92 (tgt := 96) (by decide) ?_
        refine V_weak (lv' := [some (.ref 103), some (.int x1), none, some (.int x3), some (.int x4)]) (lvle_s (lvle_s (lvle_n (lvle_s (lvle_s lvle_0))))) ?_
        exact (T_X12_sets_b96 C ih) x1 x3 x4 (1 : Int32) ((40 : Int32) + x4) h hyp
def F_X12_sets_b65 (N : Nat) (x1 : Int32) (x3 : Int32) (s0 : Int32) (s1 : Int32) (h : PH) : Option PH :=
  if inb s1 60 = true then
  hb (hs h 123 s1.toNatClampNeg s0) fun h2 =>
  F_X12_sets_b69 N N x1 x3 (0 : Int32) h2
  else none
set_option maxRecDepth 20000 in
set_option maxHeartbeats 4000000 in
theorem T_X12_sets_b65 {X : CT} (C : CX X 154 cX12_sets 5 RX12 none 1 20) {h0 : PH} {N : Nat} : ∀ (x1 : Int32) (x3 : Int32) (s0 : Int32) (s1 : Int32) (h : PH), F_X12_sets_b65 N x1 x3 s0 s1 h = some h0 → V X (QV X h0) h 65 [some (.ref 103), some (.int x1), none, some (.int x3), none] [.int s0, .int s1, .ref 123] := by
  intro x1 x3 s0 s1 h hyp
  unfold F_X12_sets_b65 at hyp
  obtain ⟨g1, hyp⟩ := gd_n hyp
  obtain ⟨h2, eh2, hyp⟩ := hb_n hyp
  refine V_iast (pc := 65) C dX12_sets_65 ak_123 g1 eh2 ?_
  refine V_iconst (pc := 66) C dX12_sets_66 (v := 0) (by decide) ?_
  refine V_istore (pc := 67) C dX12_sets_67 (by decide) rfl ?_
  refine V_weak (lv' := [some (.ref 103), some (.int x1), none, some (.int x3), some (.int (0 : Int32))]) (lvle_s (lvle_s (lvle_n (lvle_s (lvle_s lvle_0))))) ?_
  exact (T_X12_sets_b69 C) N x1 x3 (0 : Int32) h2 hyp
def F_X12_sets_b49 (N : Nat) (x1 : Int32) (x3 : Int32) (s0 : Int32) (s1 : Int32) (h : PH) : Option PH :=
  if inb s1 60 = true then
  hb (hs h 123 s1.toNatClampNeg s0) fun h2 =>
  if x3 < 0 then
    F_X12_sets_b65 N x1 x3 (0 : Int32) (10 : Int32) h2
  else
    F_X12_sets_b65 N x1 x3 (1 : Int32) (10 : Int32) h2
  else none
set_option maxRecDepth 20000 in
set_option maxHeartbeats 4000000 in
theorem T_X12_sets_b49 {X : CT} (C : CX X 154 cX12_sets 5 RX12 none 1 20) {h0 : PH} {N : Nat} : ∀ (x1 : Int32) (x3 : Int32) (s0 : Int32) (s1 : Int32) (h : PH), F_X12_sets_b49 N x1 x3 s0 s1 h = some h0 → V X (QV X h0) h 49 [some (.ref 103), some (.int x1), none, some (.int x3), none] [.int s0, .int s1, .ref 123] := by
  intro x1 x3 s0 s1 h hyp
  unfold F_X12_sets_b49 at hyp
  obtain ⟨g1, hyp⟩ := gd_n hyp
  obtain ⟨h2, eh2, hyp⟩ := hb_n hyp
  refine V_iast (pc := 49) C dX12_sets_49 ak_123 g1 eh2 ?_
  refine V_aload_n (pc := 50) C dX12_sets_50 rfl ?_
  refine V_getR (pc := 51) C dX12_sets_51 lf_X12_72 fk_103_32 ?_
  refine V_bipush (pc := 54) C dX12_sets_54 (v := 10) (by decide) ?_
  refine V_iload_n (pc := 56) C dX12_sets_56 rfl ?_
  refine V_if_lt (pc := 57) C dX12_sets_57 (tgt := 64) (by decide) (fun q3 => ?_) (fun q3 => ?_)
  · replace hyp := (if_pos q3).symm.trans hyp
    refine V_iconst (pc := 64) C dX12_sets_64 (v := 0) (by decide) ?_
    refine V_weak (lv' := [some (.ref 103), some (.int x1), none, some (.int x3), none]) (lvle_s (lvle_s (lvle_n (lvle_s (lvle_n lvle_0))))) ?_
    exact (T_X12_sets_b65 C) x1 x3 (0 : Int32) (10 : Int32) h2 hyp
  · replace hyp := (if_neg q3).symm.trans hyp
    refine V_iconst (pc := 60) C dX12_sets_60 (v := 1) (by decide) ?_
    refine V_goto (pc := 61) C dX12_sets_61 (tgt := 65) (by decide) ?_
    refine V_weak (lv' := [some (.ref 103), some (.int x1), none, some (.int x3), none]) (lvle_s (lvle_s (lvle_n (lvle_s (lvle_n lvle_0))))) ?_
    exact (T_X12_sets_b65 C) x1 x3 (1 : Int32) (10 : Int32) h2 hyp
def F_X12_sets_b31 (N : Nat) (x1 : Int32) (x3 : Int32) (h : PH) : Option PH :=
  bI (F_X12_isOpen x1 h) fun r1 h2 =>
  if r1 = 0 then
    F_X12_sets_b49 N x1 x3 (0 : Int32) (9 : Int32) h2
  else
    F_X12_sets_b49 N x1 x3 (1 : Int32) (9 : Int32) h2
set_option maxRecDepth 20000 in
set_option maxHeartbeats 4000000 in
theorem T_X12_sets_b31 {X : CT} (C : CX X 154 cX12_sets 5 RX12 none 1 20) {h0 : PH} {N : Nat} : ∀ (x1 : Int32) (x3 : Int32) (h : PH), F_X12_sets_b31 N x1 x3 h = some h0 → V X (QV X h0) h 31 [some (.ref 103), some (.int x1), none, some (.int x3), none] [] := by
  intro x1 x3 h hyp
  unfold F_X12_sets_b31 at hyp
  refine V_aload_n (pc := 31) C dX12_sets_31 rfl ?_
  refine V_getR (pc := 32) C dX12_sets_32 lf_X12_72 fk_103_32 ?_
  refine V_bipush (pc := 35) C dX12_sets_35 (v := 9) (by decide) ?_
  refine V_iload_n (pc := 37) C dX12_sets_37 rfl ?_
  obtain ⟨r1, h2, eh2, hyp⟩ := bI_n hyp
  refine V_statI (pc := 38) C dX12_sets_38 lm_X12_360 ms_X12_isOpen (M_X12_isOpen _ eh2) rfl pd_X12_isOpen (by decide) (by decide) (by decide) (As := [.int x1]) (rest := [.int (9 : Int32), .ref 123]) rfl (Nat.le_of_ble_eq_true rfl) ?_
  refine V_if_eq (pc := 41) C dX12_sets_41 (tgt := 48) (by decide) (fun q3 => ?_) (fun q3 => ?_)
  · replace hyp := (if_pos q3).symm.trans hyp
    refine V_iconst (pc := 48) C dX12_sets_48 (v := 0) (by decide) ?_
    refine V_weak (lv' := [some (.ref 103), some (.int x1), none, some (.int x3), none]) (lvle_s (lvle_s (lvle_n (lvle_s (lvle_n lvle_0))))) ?_
    exact (T_X12_sets_b49 C) x1 x3 (0 : Int32) (9 : Int32) h2 hyp
  · replace hyp := (if_neg q3).symm.trans hyp
    refine V_iconst (pc := 44) C dX12_sets_44 (v := 1) (by decide) ?_
    refine V_goto (pc := 45) C dX12_sets_45 (tgt := 49) (by decide) ?_
    refine V_weak (lv' := [some (.ref 103), some (.int x1), none, some (.int x3), none]) (lvle_s (lvle_s (lvle_n (lvle_s (lvle_n lvle_0))))) ?_
    exact (T_X12_sets_b49 C) x1 x3 (1 : Int32) (9 : Int32) h2 hyp
def F_X12_sets_b3 (N : Nat) : Nat → Int32 → Int32 → Int32 → Int32 → PH → Option PH
  | 0, _, _, _, _, _ => none
  | n + 1, x1, x2, x3, x4, h =>
    if (8 : Int32) ≤ x4 then
      F_X12_sets_b31 N x1 x3 h
    else
      if inb ((1 : Int32) + x4) 60 = true then
      hb (hs h 123 ((1 : Int32) + x4).toNatClampNeg ((x2 >>> (x4 &&& 31)) &&& (1 : Int32))) fun h3 =>
      ib (x4 + (1 : Int32)) fun v4 =>
      F_X12_sets_b3 N n x1 x2 x3 v4 h3
      else none
set_option maxRecDepth 20000 in
set_option maxHeartbeats 4000000 in
theorem T_X12_sets_b3 {X : CT} (C : CX X 154 cX12_sets 5 RX12 none 1 20) {h0 : PH} {N : Nat} : ∀ (n : Nat) (x1 : Int32) (x2 : Int32) (x3 : Int32) (x4 : Int32) (h : PH), F_X12_sets_b3 N n x1 x2 x3 x4 h = some h0 → V X (QV X h0) h 3 [some (.ref 103), some (.int x1), some (.int x2), some (.int x3), some (.int x4)] [] := by
  intro n
  induction n with
  | zero =>
    intro x1 x2 x3 x4 h hyp
    cases hyp
  | succ n ih =>
    intro x1 x2 x3 x4 h hyp
    unfold F_X12_sets_b3 at hyp
    refine V_iload (pc := 3) C dX12_sets_3 rfl ?_
    refine V_bipush (pc := 5) C dX12_sets_5 (v := 8) (by decide) ?_
    refine V_icmp_ge (pc := 7) C dX12_sets_7 (tgt := 31) (by decide) (fun q1 => ?_) (fun q1 => ?_)
    · replace hyp := (if_pos q1).symm.trans hyp
      refine V_weak (lv' := [some (.ref 103), some (.int x1), none, some (.int x3), none]) (lvle_s (lvle_s (lvle_n (lvle_s (lvle_n lvle_0))))) ?_
      exact (T_X12_sets_b31 C) x1 x3 h hyp
    · replace hyp := (if_neg q1).symm.trans hyp
      refine V_aload_n (pc := 10) C dX12_sets_10 rfl ?_
      refine V_getR (pc := 11) C dX12_sets_11 lf_X12_72 fk_103_32 ?_
      refine V_iconst (pc := 14) C dX12_sets_14 (v := 1) (by decide) ?_
      refine V_iload (pc := 15) C dX12_sets_15 rfl ?_
      refine V_iadd (pc := 17) C dX12_sets_17 ?_
      refine V_iload_n (pc := 18) C dX12_sets_18 rfl ?_
      refine V_iload (pc := 19) C dX12_sets_19 rfl ?_
      refine V_ishr (pc := 21) C dX12_sets_21 ?_
      refine V_iconst (pc := 22) C dX12_sets_22 (v := 1) (by decide) ?_
      refine V_iand (pc := 23) C dX12_sets_23 ?_
      obtain ⟨g2, hyp⟩ := gd_n hyp
      obtain ⟨h3, eh3, hyp⟩ := hb_n hyp
      refine V_iast (pc := 24) C dX12_sets_24 ak_123 g2 eh3 ?_
      obtain ⟨v4, ev4, hyp⟩ := ib_n hyp
      refine V_iinc (pc := 25) C dX12_sets_25 (v := v4) rfl (by rw [ev4]; rfl) (by decide) rfl ?_
      refine V_goto (pc := 28) C dX12_sets_28 (tgt := 3) (by decide) ?_
      refine V_weak (lv' := [some (.ref 103), some (.int x1), some (.int x2), some (.int x3), some (.int v4)]) (lvle_s (lvle_s (lvle_s (lvle_s (lvle_s lvle_0))))) ?_
      exact ih x1 x2 x3 v4 h3 hyp
def F_X12_sets (N : Nat) (a1 : Int32) (a2 : Int32) (a3 : Int32) (h : PH) : Option PH :=
  F_X12_sets_b3 N N a1 a2 a3 (0 : Int32) h
set_option maxRecDepth 20000 in
set_option maxHeartbeats 4000000 in
theorem M_X12_sets (E : EV) {N : Nat} {a1 : Int32} {a2 : Int32} {a3 : Int32} {h h2 : PH} (hyp : F_X12_sets N a1 a2 a3 h = some h2) : MV E 154 yX12_sets cX12_sets 5 none 1 20 [.ref 103, .int a1, .int a2, .int a3] h h2 := by
  refine MV.of 1 (by decide) rfl (fun X e1 C => ?_)
  subst e1
  replace C : CX X 154 cX12_sets 5 RX12 none 1 20 := C
  show V X _ h 0 [some (.ref 103), some (.int a1), some (.int a2), some (.int a3), none] []
  unfold F_X12_sets at hyp
  refine V_iconst (pc := 0) C dX12_sets_0 (v := 0) (by decide) ?_
  refine V_istore (pc := 1) C dX12_sets_1 (by decide) rfl ?_
  refine V_weak (lv' := [some (.ref 103), some (.int a1), some (.int a2), some (.int a3), some (.int (0 : Int32))]) (lvle_s (lvle_s (lvle_s (lvle_s (lvle_s lvle_0))))) ?_
  exact (T_X12_sets_b3 C) N a1 a2 a3 (0 : Int32) h hyp
