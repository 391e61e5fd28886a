theorem dX0_forget_0 : decode cX0_forget 0 = .ok (.aload_n 0, 1) := by decide +kernel
theorem dX0_forget_1 : decode cX0_forget 1 = .ok (.iconst 0, 1) := by decide +kernel
theorem dX0_forget_2 : decode cX0_forget 2 = .ok (.putfield 51, 3) := by decide +kernel
theorem dX0_forget_5 : decode cX0_forget 5 = .ok (.return_, 1) := by decide +kernel
def F_X0_forget (h : PH) : Option PH :=
  hb (hs h 21 12 (0 : Int32)) fun h1 =>
  some h1
set_option maxRecDepth 20000 in
set_option maxHeartbeats 4000000 in
theorem M_X0_forget (E : EV) {h h2 : PH} (hyp : F_X0_forget  h = some h2) : MV E 103 yX0_forget cX0_forget 1 none 0 0 [.ref 21] h h2 := by
  refine MV.of 0 (by decide) rfl (fun X e1 C => ?_)
  subst e1
  replace C : CX X 103 cX0_forget 1 RX0 none 0 0 := C
  show V X _ h 0 [some (.ref 21)] []
  unfold F_X0_forget at hyp
  refine V_aload_n (pc := 0) C dX0_forget_0 rfl ?_
  refine V_iconst (pc := 1) C dX0_forget_1 (v := 0) (by decide) ?_
  obtain ⟨h1, eh1, hyp⟩ := hb_n hyp
  refine V_putI (pc := 2) C dX0_forget_2 lf_X0_51 fk_21_12 rfl rfl eh1 ?_
  cases hyp
  exact V_vret C dX0_forget_5
theorem dX0_find_0 : decode cX0_find 0 = .ok (.iload_n 1, 1) := by decide +kernel
theorem dX0_find_1 : decode cX0_find 1 = .ok (.ifCond .lt 12, 3) := by decide +kernel
theorem dX0_find_4 : decode cX0_find 4 = .ok (.iload_n 1, 1) := by decide +kernel
theorem dX0_find_5 : decode cX0_find 5 = .ok (.aload_n 0, 1) := by decide +kernel
theorem dX0_find_6 : decode cX0_find 6 = .ok (.getfield 23, 3) := by decide +kernel
theorem dX0_find_9 : decode cX0_find 9 = .ok (.arraylength, 1) := by decide +kernel
theorem dX0_find_10 : decode cX0_find 10 = .ok (.if_icmp .lt 5, 3) := by decide +kernel
theorem dX0_find_13 : decode cX0_find 13 = .ok (.iconst 0, 1) := by decide +kernel
theorem dX0_find_14 : decode cX0_find 14 = .ok (.ireturn, 1) := by decide +kernel
theorem dX0_find_15 : decode cX0_find 15 = .ok (.aload_n 0, 1) := by decide +kernel
theorem dX0_find_16 : decode cX0_find 16 = .ok (.getfield 23, 3) := by decide +kernel
theorem dX0_find_19 : decode cX0_find 19 = .ok (.iload_n 1, 1) := by decide +kernel
theorem dX0_find_20 : decode cX0_find 20 = .ok (.iaload, 1) := by decide +kernel
theorem dX0_find_21 : decode cX0_find 21 = .ok (.iconst (-1), 1) := by decide +kernel
theorem dX0_find_22 : decode cX0_find 22 = .ok (.if_icmp .ne 105, 3) := by decide +kernel
theorem dX0_find_25 : decode cX0_find 25 = .ok (.aload_n 0, 1) := by decide +kernel
theorem dX0_find_26 : decode cX0_find 26 = .ok (.getfield 58, 3) := by decide +kernel
theorem dX0_find_29 : decode cX0_find 29 = .ok (.sipush 3072, 3) := by decide +kernel
theorem dX0_find_32 : decode cX0_find 32 = .ok (.if_icmp .ge 95, 3) := by decide +kernel
theorem dX0_find_35 : decode cX0_find 35 = .ok (.aload_n 0, 1) := by decide +kernel
theorem dX0_find_36 : decode cX0_find 36 = .ok (.getfield 20, 3) := by decide +kernel
theorem dX0_find_39 : decode cX0_find 39 = .ok (.aload_n 0, 1) := by decide +kernel
theorem dX0_find_40 : decode cX0_find 40 = .ok (.getfield 58, 3) := by decide +kernel
theorem dX0_find_43 : decode cX0_find 43 = .ok (.iload_n 1, 1) := by decide +kernel
theorem dX0_find_44 : decode cX0_find 44 = .ok (.iastore, 1) := by decide +kernel
theorem dX0_find_45 : decode cX0_find 45 = .ok (.aload_n 0, 1) := by decide +kernel
theorem dX0_find_46 : decode cX0_find 46 = .ok (.getfield 26, 3) := by decide +kernel
theorem dX0_find_49 : decode cX0_find 49 = .ok (.aload_n 0, 1) := by decide +kernel
theorem dX0_find_50 : decode cX0_find 50 = .ok (.getfield 58, 3) := by decide +kernel
theorem dX0_find_53 : decode cX0_find 53 = .ok (.iload_n 2, 1) := by decide +kernel
theorem dX0_find_54 : decode cX0_find 54 = .ok (.iastore, 1) := by decide +kernel
theorem dX0_find_55 : decode cX0_find 55 = .ok (.aload_n 0, 1) := by decide +kernel
theorem dX0_find_56 : decode cX0_find 56 = .ok (.getfield 29, 3) := by decide +kernel
theorem dX0_find_59 : decode cX0_find 59 = .ok (.aload_n 0, 1) := by decide +kernel
theorem dX0_find_60 : decode cX0_find 60 = .ok (.getfield 58, 3) := by decide +kernel
theorem dX0_find_63 : decode cX0_find 63 = .ok (.iload_n 3, 1) := by decide +kernel
theorem dX0_find_64 : decode cX0_find 64 = .ok (.iastore, 1) := by decide +kernel
theorem dX0_find_65 : decode cX0_find 65 = .ok (.aload_n 0, 1) := by decide +kernel
theorem dX0_find_66 : decode cX0_find 66 = .ok (.getfield 32, 3) := by decide +kernel
theorem dX0_find_69 : decode cX0_find 69 = .ok (.aload_n 0, 1) := by decide +kernel
theorem dX0_find_70 : decode cX0_find 70 = .ok (.getfield 58, 3) := by decide +kernel
theorem dX0_find_73 : decode cX0_find 73 = .ok (.iload_n 2, 1) := by decide +kernel
theorem dX0_find_74 : decode cX0_find 74 = .ok (.ifCond .ge 7, 3) := by decide +kernel
theorem dX0_find_77 : decode cX0_find 77 = .ok (.iconst 0, 1) := by decide +kernel
theorem dX0_find_78 : decode cX0_find 78 = .ok (.goto 11, 3) := by decide +kernel
theorem dX0_find_81 : decode cX0_find 81 = .ok (.aload_n 0, 1) := by decide +kernel
theorem dX0_find_82 : decode cX0_find 82 = .ok (.getfield 32, 3) := by decide +kernel
theorem dX0_find_85 : decode cX0_find 85 = .ok (.iload_n 2, 1) := by decide +kernel
theorem dX0_find_86 : decode cX0_find 86 = .ok (.iaload, 1) := by decide +kernel
theorem dX0_find_87 : decode cX0_find 87 = .ok (.iconst 1, 1) := by decide +kernel
theorem dX0_find_88 : decode cX0_find 88 = .ok (.iadd, 1) := by decide +kernel
theorem dX0_find_89 : decode cX0_find 89 = .ok (.iastore, 1) := by decide +kernel
theorem dX0_find_90 : decode cX0_find 90 = .ok (.aload_n 0, 1) := by decide +kernel
theorem dX0_find_91 : decode cX0_find 91 = .ok (.getfield 35, 3) := by decide +kernel
theorem dX0_find_94 : decode cX0_find 94 = .ok (.aload_n 0, 1) := by decide +kernel
theorem dX0_find_95 : decode cX0_find 95 = .ok (.getfield 58, 3) := by decide +kernel
theorem dX0_find_98 : decode cX0_find 98 = .ok (.aload_n 0, 1) := by decide +kernel
theorem dX0_find_99 : decode cX0_find 99 = .ok (.getfield 47, 3) := by decide +kernel
theorem dX0_find_102 : decode cX0_find 102 = .ok (.iload_n 1, 1) := by decide +kernel
theorem dX0_find_103 : decode cX0_find 103 = .ok (.invokevirtual 81, 3) := by decide +kernel
theorem dX0_find_106 : decode cX0_find 106 = .ok (.iastore, 1) := by decide +kernel
theorem dX0_find_107 : decode cX0_find 107 = .ok (.aload_n 0, 1) := by decide +kernel
theorem dX0_find_108 : decode cX0_find 108 = .ok (.getfield 23, 3) := by decide +kernel
theorem dX0_find_111 : decode cX0_find 111 = .ok (.iload_n 1, 1) := by decide +kernel
theorem dX0_find_112 : decode cX0_find 112 = .ok (.aload_n 0, 1) := by decide +kernel
theorem dX0_find_113 : decode cX0_find 113 = .ok (.getfield 58, 3) := by decide +kernel
theorem dX0_find_116 : decode cX0_find 116 = .ok (.iastore, 1) := by decide +kernel
theorem dX0_find_117 : decode cX0_find 117 = .ok (.aload_n 0, 1) := by decide +kernel
theorem dX0_find_118 : decode cX0_find 118 = .ok (.dup, 1) := by decide +kernel
theorem dX0_find_119 : decode cX0_find 119 = .ok (.getfield 58, 3) := by decide +kernel
theorem dX0_find_122 : decode cX0_find 122 = .ok (.iconst 1, 1) := by decide +kernel
theorem dX0_find_123 : decode cX0_find 123 = .ok (.iadd, 1) := by decide +kernel
theorem dX0_find_124 : decode cX0_find 124 = .ok (.putfield 58, 3) := by decide +kernel
theorem dX0_find_127 : decode cX0_find 127 = .ok (.aload_n 0, 1) := by decide +kernel
theorem dX0_find_128 : decode cX0_find 128 = .ok (.getfield 23, 3) := by decide +kernel
theorem dX0_find_131 : decode cX0_find 131 = .ok (.iload_n 1, 1) := by decide +kernel
theorem dX0_find_132 : decode cX0_find 132 = .ok (.iaload, 1) := by decide +kernel
theorem dX0_find_133 : decode cX0_find 133 = .ok (.iconst 0, 1) := by decide +kernel
theorem dX0_find_134 : decode cX0_find 134 = .ok (.invokestatic 85, 3) := by decide +kernel
theorem dX0_find_137 : decode cX0_find 137 = .ok (.ireturn, 1) := by decide +kernel
def F_X0_find_b127 (N : Nat) (x1 : Int32) (h : PH) : Option (Int32 × PH) :=
  if inb x1 4096 = true then
  some (imax (h.1 31 x1.toNatClampNeg) (0 : Int32), h)
  else none
set_option maxRecDepth 20000 in
set_option maxHeartbeats 4000000 in
theorem T_X0_find_b127 {X : CT} (C : CX X 103 cX0_find 4 RX0 (some .int) 3 74) {r0 : Int32} {h0 : PH} {N : Nat} : ∀ (x1 : Int32) (h : PH), F_X0_find_b127 N x1 h = some (r0, h0) → V X (QI X r0 h0) h 127 [some (.ref 21), some (.int x1), none, none] [] := by
  intro x1 h hyp
  unfold F_X0_find_b127 at hyp
  refine V_aload_n (pc := 127) C dX0_find_127 rfl ?_
  refine V_getR (pc := 128) C dX0_find_128 lf_X0_23 fk_21_4 ?_
  refine V_iload_n (pc := 131) C dX0_find_131 rfl ?_
  obtain ⟨g1, hyp⟩ := gd_n hyp
  refine V_iald (pc := 132) C dX0_find_132 ak_31 g1 ?_
  refine V_iconst (pc := 133) C dX0_find_133 (v := 0) (by decide) ?_
  refine V_mmax (pc := 134) C dX0_find_134 lm_X0_85 (by decide) (Nat.le_of_ble_eq_true rfl) ?_
  cases hyp
  exact V_iret C dX0_find_137
def F_X0_find_b89 (N : Nat) (x1 : Int32) (s0 : Int32) (s1 : Int32) (h : PH) : Option (Int32 × PH) :=
  if inb s1 3072 = true then
  hb (hs h 34 s1.toNatClampNeg s0) fun h2 =>
  bI (F_X4_lampsIn N x1 h2) fun r3 h4 =>
  if inb (h2.1 21 13) 3072 = true then
  hb (hs h4 35 (h2.1 21 13).toNatClampNeg r3) fun h6 =>
  if inb x1 4096 = true then
  hb (hs h6 31 x1.toNatClampNeg (h6.1 21 13)) fun h8 =>
  hb (hs h8 21 13 ((h8.1 21 13) + (1 : Int32))) fun h9 =>
  F_X0_find_b127 N x1 h9
  else none
  else none
  else none
set_option maxRecDepth 20000 in
set_option maxHeartbeats 4000000 in
theorem T_X0_find_b89 {X : CT} (C : CX X 103 cX0_find 4 RX0 (some .int) 3 74) {r0 : Int32} {h0 : PH} {N : Nat} : ∀ (x1 : Int32) (s0 : Int32) (s1 : Int32) (h : PH), F_X0_find_b89 N x1 s0 s1 h = some (r0, h0) → V X (QI X r0 h0) h 89 [some (.ref 21), some (.int x1), none, none] [.int s0, .int s1, .ref 34] := by
  intro x1 s0 s1 h hyp
  unfold F_X0_find_b89 at hyp
  obtain ⟨g1, hyp⟩ := gd_n hyp
  obtain ⟨h2, eh2, hyp⟩ := hb_n hyp
  refine V_iast (pc := 89) C dX0_find_89 ak_34 g1 eh2 ?_
  refine V_aload_n (pc := 90) C dX0_find_90 rfl ?_
  refine V_getR (pc := 91) C dX0_find_91 lf_X0_35 fk_21_8 ?_
  refine V_aload_n (pc := 94) C dX0_find_94 rfl ?_
  refine V_getI (pc := 95) C dX0_find_95 lf_X0_58 fk_21_13 ?_
  refine V_aload_n (pc := 98) C dX0_find_98 rfl ?_
  refine V_getR (pc := 99) C dX0_find_99 lf_X0_47 fk_21_0 ?_
  refine V_iload_n (pc := 102) C dX0_find_102 rfl ?_
  obtain ⟨r3, h4, eh4, hyp⟩ := bI_n hyp
  refine V_callI (pc := 103) C dX0_find_103 lm_X0_81 mk_X4_lampsIn ok_14 rfl (M_X4_lampsIn _ eh4) rfl pd_X4_lampsIn (by decide) (by decide) (by decide) (As := [.int x1]) (rest := [.int (h2.1 21 13), .ref 35]) rfl (Nat.le_of_ble_eq_true rfl) ?_
  obtain ⟨g5, hyp⟩ := gd_n hyp
  obtain ⟨h6, eh6, hyp⟩ := hb_n hyp
  refine V_iast (pc := 106) C dX0_find_106 ak_35 g5 eh6 ?_
  refine V_aload_n (pc := 107) C dX0_find_107 rfl ?_
  refine V_getR (pc := 108) C dX0_find_108 lf_X0_23 fk_21_4 ?_
  refine V_iload_n (pc := 111) C dX0_find_111 rfl ?_
  refine V_aload_n (pc := 112) C dX0_find_112 rfl ?_
  refine V_getI (pc := 113) C dX0_find_113 lf_X0_58 fk_21_13 ?_
  obtain ⟨g7, hyp⟩ := gd_n hyp
  obtain ⟨h8, eh8, hyp⟩ := hb_n hyp
  refine V_iast (pc := 116) C dX0_find_116 ak_31 g7 eh8 ?_
  refine V_aload_n (pc := 117) C dX0_find_117 rfl ?_
  refine V_dup (pc := 118) C dX0_find_118 rfl ?_
  refine V_getI (pc := 119) C dX0_find_119 lf_X0_58 fk_21_13 ?_
  refine V_iconst (pc := 122) C dX0_find_122 (v := 1) (by decide) ?_
  refine V_iadd (pc := 123) C dX0_find_123 ?_
  obtain ⟨h9, eh9, hyp⟩ := hb_n hyp
  refine V_putI (pc := 124) C dX0_find_124 lf_X0_58 fk_21_13 rfl rfl eh9 ?_
  refine V_weak (lv' := [some (.ref 21), some (.int x1), none, none]) (lvle_s (lvle_s (lvle_n (lvle_n lvle_0)))) ?_
  exact (T_X0_find_b127 C) x1 h9 hyp
def F_X0_find (N : Nat) (a1 : Int32) (a2 : Int32) (a3 : Int32) (h : PH) : Option (Int32 × PH) :=
  if a1 < 0 then
    some ((0 : Int32), h)
  else
    if a1 < (4096 : Int32) then
      if inb a1 4096 = true then
      if (h.1 31 a1.toNatClampNeg) = (-1 : Int32) then
        if (3072 : Int32) ≤ (h.1 21 13) then
          F_X0_find_b127 N a1 h
        else
          if inb (h.1 21 13) 3072 = true then
          hb (hs h 30 (h.1 21 13).toNatClampNeg a1) fun h7 =>
          if inb (h7.1 21 13) 3072 = true then
          hb (hs h7 32 (h7.1 21 13).toNatClampNeg a2) fun h9 =>
          if inb (h9.1 21 13) 3072 = true then
          hb (hs h9 33 (h9.1 21 13).toNatClampNeg a3) fun h11 =>
          if 0 ≤ a2 then
            if inb a2 3072 = true then
            F_X0_find_b89 N a1 ((h11.1 34 a2.toNatClampNeg) + (1 : Int32)) (h11.1 21 13) h11
            else none
          else
            F_X0_find_b89 N a1 (0 : Int32) (h11.1 21 13) h11
          else none
          else none
          else none
      else
        F_X0_find_b127 N a1 h
      else none
    else
      some ((0 : Int32), h)
set_option maxRecDepth 20000 in
set_option maxHeartbeats 4000000 in
theorem M_X0_find (E : EV) {N : Nat} {a1 : Int32} {a2 : Int32} {a3 : Int32} {r : Int32} {h h2 : PH} (hyp : F_X0_find N a1 a2 a3 h = some (r, h2)) : MI E 103 yX0_find cX0_find 4 (some .int) 3 74 [.ref 21, .int a1, .int a2, .int a3] h r h2 := by
  refine MI.of 0 (by decide) rfl (fun X e1 C => ?_)
  subst e1
  replace C : CX X 103 cX0_find 4 RX0 (some .int) 3 74 := C
  show V X _ h 0 [some (.ref 21), some (.int a1), some (.int a2), some (.int a3)] []
  unfold F_X0_find at hyp
  refine V_iload_n (pc := 0) C dX0_find_0 rfl ?_
  refine V_if_lt (pc := 1) C dX0_find_1 (tgt := 13) (by decide) (fun q1 => ?_) (fun q1 => ?_)
  · replace hyp := (if_pos q1).symm.trans hyp
    refine V_iconst (pc := 13) C dX0_find_13 (v := 0) (by decide) ?_
    cases hyp
    exact V_iret C dX0_find_14
  · replace hyp := (if_neg q1).symm.trans hyp
    refine V_iload_n (pc := 4) C dX0_find_4 rfl ?_
    refine V_aload_n (pc := 5) C dX0_find_5 rfl ?_
    refine V_getR (pc := 6) C dX0_find_6 lf_X0_23 fk_21_4 ?_
    refine V_alen (pc := 9) C dX0_find_9 ak_31 (by decide) (v := 4096) rfl ?_
    refine V_icmp_lt (pc := 10) C dX0_find_10 (tgt := 15) (by decide) (fun q2 => ?_) (fun q2 => ?_)
    · replace hyp := (if_pos q2).symm.trans hyp
      refine V_aload_n (pc := 15) C dX0_find_15 rfl ?_
      refine V_getR (pc := 16) C dX0_find_16 lf_X0_23 fk_21_4 ?_
      refine V_iload_n (pc := 19) C dX0_find_19 rfl ?_
      obtain ⟨g3, hyp⟩ := gd_n hyp
      refine V_iald (pc := 20) C dX0_find_20 ak_31 g3 ?_
      refine V_iconst (pc := 21) C dX0_find_21 (v := -1) (by decide) ?_
      refine V_icmp_ne (pc := 22) C dX0_find_22 (tgt := 127) (by decide) (fun q4 => ?_) (fun q4 => ?_)
      · replace hyp := (if_neg q4).symm.trans hyp
        refine V_weak (lv' := [some (.ref 21), some (.int a1), none, none]) (lvle_s (lvle_s (lvle_n (lvle_n lvle_0)))) ?_
        exact (T_X0_find_b127 C) a1 h hyp
      · replace hyp := (if_pos q4).symm.trans hyp
        refine V_aload_n (pc := 25) C dX0_find_25 rfl ?_
        refine V_getI (pc := 26) C dX0_find_26 lf_X0_58 fk_21_13 ?_
        refine V_sipush (pc := 29) C dX0_find_29 (v := 3072) (by decide) ?_
        refine V_icmp_ge (pc := 32) C dX0_find_32 (tgt := 127) (by decide) (fun q5 => ?_) (fun q5 => ?_)
        · replace hyp := (if_pos q5).symm.trans hyp
          refine V_weak (lv' := [some (.ref 21), some (.int a1), none, none]) (lvle_s (lvle_s (lvle_n (lvle_n lvle_0)))) ?_
          exact (T_X0_find_b127 C) a1 h hyp
        · replace hyp := (if_neg q5).symm.trans hyp
          refine V_aload_n (pc := 35) C dX0_find_35 rfl ?_
          refine V_getR (pc := 36) C dX0_find_36 lf_X0_20 fk_21_3 ?_
          refine V_aload_n (pc := 39) C dX0_find_39 rfl ?_
          refine V_getI (pc := 40) C dX0_find_40 lf_X0_58 fk_21_13 ?_
          refine V_iload_n (pc := 43) C dX0_find_43 rfl ?_
          obtain ⟨g6, hyp⟩ := gd_n hyp
          obtain ⟨h7, eh7, hyp⟩ := hb_n hyp
          refine V_iast (pc := 44) C dX0_find_44 ak_30 g6 eh7 ?_
          refine V_aload_n (pc := 45) C dX0_find_45 rfl ?_
          refine V_getR (pc := 46) C dX0_find_46 lf_X0_26 fk_21_5 ?_
          refine V_aload_n (pc := 49) C dX0_find_49 rfl ?_
          refine V_getI (pc := 50) C dX0_find_50 lf_X0_58 fk_21_13 ?_
          refine V_iload_n (pc := 53) C dX0_find_53 rfl ?_
          obtain ⟨g8, hyp⟩ := gd_n hyp
          obtain ⟨h9, eh9, hyp⟩ := hb_n hyp
          refine V_iast (pc := 54) C dX0_find_54 ak_32 g8 eh9 ?_
          refine V_aload_n (pc := 55) C dX0_find_55 rfl ?_
          refine V_getR (pc := 56) C dX0_find_56 lf_X0_29 fk_21_6 ?_
          refine V_aload_n (pc := 59) C dX0_find_59 rfl ?_
          refine V_getI (pc := 60) C dX0_find_60 lf_X0_58 fk_21_13 ?_
          refine V_iload_n (pc := 63) C dX0_find_63 rfl ?_
          obtain ⟨g10, hyp⟩ := gd_n hyp
          obtain ⟨h11, eh11, hyp⟩ := hb_n hyp
          refine V_iast (pc := 64) C dX0_find_64 ak_33 g10 eh11 ?_
          refine V_aload_n (pc := 65) C dX0_find_65 rfl ?_
          refine V_getR (pc := 66) C dX0_find_66 lf_X0_32 fk_21_7 ?_
          refine V_aload_n (pc := 69) C dX0_find_69 rfl ?_
          refine V_getI (pc := 70) C dX0_find_70 lf_X0_58 fk_21_13 ?_
          refine V_iload_n (pc := 73) C dX0_find_73 rfl ?_
          refine V_if_ge (pc := 74) C dX0_find_74 (tgt := 81) (by decide) (fun q12 => ?_) (fun q12 => ?_)
          · replace hyp := (if_pos q12).symm.trans hyp
            refine V_aload_n (pc := 81) C dX0_find_81 rfl ?_
            refine V_getR (pc := 82) C dX0_find_82 lf_X0_32 fk_21_7 ?_
            refine V_iload_n (pc := 85) C dX0_find_85 rfl ?_
            obtain ⟨g13, hyp⟩ := gd_n hyp
            refine V_iald (pc := 86) C dX0_find_86 ak_34 g13 ?_
            refine V_iconst (pc := 87) C dX0_find_87 (v := 1) (by decide) ?_
            refine V_iadd (pc := 88) C dX0_find_88 ?_
            refine V_weak (lv' := [some (.ref 21), some (.int a1), none, none]) (lvle_s (lvle_s (lvle_n (lvle_n lvle_0)))) ?_
            exact (T_X0_find_b89 C) a1 ((h11.1 34 a2.toNatClampNeg) + (1 : Int32)) (h11.1 21 13) h11 hyp
          · replace hyp := (if_neg q12).symm.trans hyp
            refine V_iconst (pc := 77) C dX0_find_77 (v := 0) (by decide) ?_
            refine V_goto (pc := 78) C dX0_find_78 (tgt := 89) (by decide) ?_
            refine V_weak (lv' := [some (.ref 21), some (.int a1), none, none]) (lvle_s (lvle_s (lvle_n (lvle_n lvle_0)))) ?_
            exact (T_X0_find_b89 C) a1 (0 : Int32) (h11.1 21 13) h11 hyp
    · replace hyp := (if_neg q2).symm.trans hyp
      refine V_iconst (pc := 13) C dX0_find_13 (v := 0) (by decide) ?_
      cases hyp
      exact V_iret C dX0_find_14
theorem dX0_explore_0 : decode cX0_explore 0 = .ok (.aload_n 0, 1) := by decide +kernel
theorem dX0_explore_1 : decode cX0_explore 1 = .ok (.getfield 51, 3) := by decide +kernel
theorem dX0_explore_4 : decode cX0_explore 4 = .ok (.ifCond .eq 4, 3) := by decide +kernel
theorem dX0_explore_7 : decode cX0_explore 7 = .ok (.return_, 1) := by decide +kernel
theorem dX0_explore_8 : decode cX0_explore 8 = .ok (.aload_n 0, 1) := by decide +kernel
theorem dX0_explore_9 : decode cX0_explore 9 = .ok (.getfield 23, 3) := by decide +kernel
theorem dX0_explore_12 : decode cX0_explore 12 = .ok (.iconst (-1), 1) := by decide +kernel
theorem dX0_explore_13 : decode cX0_explore 13 = .ok (.invokestatic 67, 3) := by decide +kernel
theorem dX0_explore_16 : decode cX0_explore 16 = .ok (.aload_n 0, 1) := by decide +kernel
theorem dX0_explore_17 : decode cX0_explore 17 = .ok (.getfield 9, 3) := by decide +kernel
theorem dX0_explore_20 : decode cX0_explore 20 = .ok (.bipush (-2), 2) := by decide +kernel
theorem dX0_explore_22 : decode cX0_explore 22 = .ok (.invokestatic 67, 3) := by decide +kernel
theorem dX0_explore_25 : decode cX0_explore 25 = .ok (.iconst 0, 1) := by decide +kernel
theorem dX0_explore_26 : decode cX0_explore 26 = .ok (.istore_n 1, 1) := by decide +kernel
theorem dX0_explore_27 : decode cX0_explore 27 = .ok (.iload_n 1, 1) := by decide +kernel
theorem dX0_explore_28 : decode cX0_explore 28 = .ok (.bipush 6, 2) := by decide +kernel
theorem dX0_explore_30 : decode cX0_explore 30 = .ok (.if_icmp .ge 19, 3) := by decide +kernel
theorem dX0_explore_33 : decode cX0_explore 33 = .ok (.aload_n 0, 1) := by decide +kernel
theorem dX0_explore_34 : decode cX0_explore 34 = .ok (.getfield 17, 3) := by decide +kernel
theorem dX0_explore_37 : decode cX0_explore 37 = .ok (.iload_n 1, 1) := by decide +kernel
theorem dX0_explore_38 : decode cX0_explore 38 = .ok (.aaload, 1) := by decide +kernel
theorem dX0_explore_39 : decode cX0_explore 39 = .ok (.iconst 0, 1) := by decide +kernel
theorem dX0_explore_40 : decode cX0_explore 40 = .ok (.bipush (-2), 2) := by decide +kernel
theorem dX0_explore_42 : decode cX0_explore 42 = .ok (.iastore, 1) := by decide +kernel
theorem dX0_explore_43 : decode cX0_explore 43 = .ok (.iinc 1 1, 3) := by decide +kernel
theorem dX0_explore_46 : decode cX0_explore 46 = .ok (.goto (-19), 3) := by decide +kernel
theorem dX0_explore_49 : decode cX0_explore 49 = .ok (.aload_n 0, 1) := by decide +kernel
theorem dX0_explore_50 : decode cX0_explore 50 = .ok (.iconst 0, 1) := by decide +kernel
theorem dX0_explore_51 : decode cX0_explore 51 = .ok (.putfield 58, 3) := by decide +kernel
theorem dX0_explore_54 : decode cX0_explore 54 = .ok (.aload_n 0, 1) := by decide +kernel
theorem dX0_explore_55 : decode cX0_explore 55 = .ok (.iconst 0, 1) := by decide +kernel
theorem dX0_explore_56 : decode cX0_explore 56 = .ok (.iconst (-1), 1) := by decide +kernel
theorem dX0_explore_57 : decode cX0_explore 57 = .ok (.iconst 0, 1) := by decide +kernel
theorem dX0_explore_58 : decode cX0_explore 58 = .ok (.invokevirtual 73, 3) := by decide +kernel
theorem dX0_explore_61 : decode cX0_explore 61 = .ok (.pop, 1) := by decide +kernel
theorem dX0_explore_62 : decode cX0_explore 62 = .ok (.iconst 0, 1) := by decide +kernel
theorem dX0_explore_63 : decode cX0_explore 63 = .ok (.istore_n 1, 1) := by decide +kernel
theorem dX0_explore_64 : decode cX0_explore 64 = .ok (.iload_n 1, 1) := by decide +kernel
theorem dX0_explore_65 : decode cX0_explore 65 = .ok (.aload_n 0, 1) := by decide +kernel
theorem dX0_explore_66 : decode cX0_explore 66 = .ok (.getfield 58, 3) := by decide +kernel
theorem dX0_explore_69 : decode cX0_explore 69 = .ok (.if_icmp .ge 74, 3) := by decide +kernel
theorem dX0_explore_72 : decode cX0_explore 72 = .ok (.iload_n 1, 1) := by decide +kernel
theorem dX0_explore_73 : decode cX0_explore 73 = .ok (.sipush 3072, 3) := by decide +kernel
theorem dX0_explore_76 : decode cX0_explore 76 = .ok (.if_icmp .ge 67, 3) := by decide +kernel
theorem dX0_explore_79 : decode cX0_explore 79 = .ok (.iconst 0, 1) := by decide +kernel
theorem dX0_explore_80 : decode cX0_explore 80 = .ok (.istore_n 2, 1) := by decide +kernel
theorem dX0_explore_81 : decode cX0_explore 81 = .ok (.iload_n 2, 1) := by decide +kernel
theorem dX0_explore_82 : decode cX0_explore 82 = .ok (.aload_n 0, 1) := by decide +kernel
theorem dX0_explore_83 : decode cX0_explore 83 = .ok (.getfield 47, 3) := by decide +kernel
theorem dX0_explore_86 : decode cX0_explore 86 = .ok (.getfield 62, 3) := by decide +kernel
theorem dX0_explore_89 : decode cX0_explore 89 = .ok (.if_icmp .gt 48, 3) := by decide +kernel
theorem dX0_explore_92 : decode cX0_explore 92 = .ok (.aload_n 0, 1) := by decide +kernel
theorem dX0_explore_93 : decode cX0_explore 93 = .ok (.getfield 47, 3) := by decide +kernel
theorem dX0_explore_96 : decode cX0_explore 96 = .ok (.aload_n 0, 1) := by decide +kernel
theorem dX0_explore_97 : decode cX0_explore 97 = .ok (.getfield 20, 3) := by decide +kernel
theorem dX0_explore_100 : decode cX0_explore 100 = .ok (.iload_n 1, 1) := by decide +kernel
theorem dX0_explore_101 : decode cX0_explore 101 = .ok (.iaload, 1) := by decide +kernel
theorem dX0_explore_102 : decode cX0_explore 102 = .ok (.iload_n 2, 1) := by decide +kernel
theorem dX0_explore_103 : decode cX0_explore 103 = .ok (.iconst 1, 1) := by decide +kernel
theorem dX0_explore_104 : decode cX0_explore 104 = .ok (.isub, 1) := by decide +kernel
theorem dX0_explore_105 : decode cX0_explore 105 = .ok (.invokevirtual 77, 3) := by decide +kernel
theorem dX0_explore_108 : decode cX0_explore 108 = .ok (.sipush (-4097), 3) := by decide +kernel
theorem dX0_explore_111 : decode cX0_explore 111 = .ok (.iand, 1) := by decide +kernel
theorem dX0_explore_112 : decode cX0_explore 112 = .ok (.istore_n 3, 1) := by decide +kernel
theorem dX0_explore_113 : decode cX0_explore 113 = .ok (.aload_n 0, 1) := by decide +kernel
theorem dX0_explore_114 : decode cX0_explore 114 = .ok (.getfield 38, 3) := by decide +kernel
theorem dX0_explore_117 : decode cX0_explore 117 = .ok (.iload_n 1, 1) := by decide +kernel
theorem dX0_explore_118 : decode cX0_explore 118 = .ok (.bipush 7, 2) := by decide +kernel
theorem dX0_explore_120 : decode cX0_explore 120 = .ok (.imul, 1) := by decide +kernel
theorem dX0_explore_121 : decode cX0_explore 121 = .ok (.iload_n 2, 1) := by decide +kernel
theorem dX0_explore_122 : decode cX0_explore 122 = .ok (.iadd, 1) := by decide +kernel
theorem dX0_explore_123 : decode cX0_explore 123 = .ok (.aload_n 0, 1) := by decide +kernel
theorem dX0_explore_124 : decode cX0_explore 124 = .ok (.iload_n 3, 1) := by decide +kernel
theorem dX0_explore_125 : decode cX0_explore 125 = .ok (.iload_n 1, 1) := by decide +kernel
theorem dX0_explore_126 : decode cX0_explore 126 = .ok (.iload_n 2, 1) := by decide +kernel
theorem dX0_explore_127 : decode cX0_explore 127 = .ok (.invokevirtual 73, 3) := by decide +kernel
theorem dX0_explore_130 : decode cX0_explore 130 = .ok (.iastore, 1) := by decide +kernel
theorem dX0_explore_131 : decode cX0_explore 131 = .ok (.iinc 2 1, 3) := by decide +kernel
theorem dX0_explore_134 : decode cX0_explore 134 = .ok (.goto (-53), 3) := by decide +kernel
theorem dX0_explore_137 : decode cX0_explore 137 = .ok (.iinc 1 1, 3) := by decide +kernel
theorem dX0_explore_140 : decode cX0_explore 140 = .ok (.goto (-76), 3) := by decide +kernel
theorem dX0_explore_143 : decode cX0_explore 143 = .ok (.aload_n 0, 1) := by decide +kernel
theorem dX0_explore_144 : decode cX0_explore 144 = .ok (.iconst 1, 1) := by decide +kernel
theorem dX0_explore_145 : decode cX0_explore 145 = .ok (.putfield 51, 3) := by decide +kernel
theorem dX0_explore_148 : decode cX0_explore 148 = .ok (.return_, 1) := by decide +kernel
def F_X0_explore_b137 (N : Nat) (rc64 : Int32 → PH → Option PH) (x1 : Int32) (h : PH) : Option PH :=
  ib (x1 + (1 : Int32)) fun v1 =>
  rc64 v1 h
set_option maxRecDepth 20000 in
set_option maxHeartbeats 4000000 in
theorem T_X0_explore_b137 {X : CT} (C : CX X 103 cX0_explore 4 RX0 none 4 97) {h0 : PH} {N : Nat} {rc64 : Int32 → PH → Option PH} (hr64 : ∀ (x1 : Int32) (h : PH), rc64 x1 h = some h0 → V X (QV X h0) h 64 [some (.ref 21), some (.int x1), none, none] []) : ∀ (x1 : Int32) (h : PH), F_X0_explore_b137 N rc64 x1 h = some h0 → V X (QV X h0) h 137 [some (.ref 21), some (.int x1), none, none] [] := by
  intro x1 h hyp
  unfold F_X0_explore_b137 at hyp
  obtain ⟨v1, ev1, hyp⟩ := ib_n hyp
  refine V_iinc (pc := 137) C dX0_explore_137 (v := v1) rfl (by rw [ev1]; rfl) (by decide) rfl ?_
  refine V_goto (pc := 140) C dX0_explore_140 (tgt := 64) (by decide) ?_
  refine V_weak (lv' := [some (.ref 21), some (.int v1), none, none]) (lvle_s (lvle_s (lvle_n (lvle_n lvle_0)))) ?_
  exact hr64 v1 h hyp
def F_X0_explore_b81 (N : Nat) (rc64 : Int32 → PH → Option PH) : Nat → Int32 → Int32 → PH → Option PH
  | 0, _, _, _ => none
  | n + 1, x1, x2, h =>
    if (h.1 14 1) < x2 then
      F_X0_explore_b137 N rc64 x1 h
    else
      if inb x1 3072 = true then
      bI (F_X4_step N (h.1 30 x1.toNatClampNeg) (x2 - (1 : Int32)) h) fun r3 h4 =>
      ib (r3 &&& (-4097 : Int32)) fun v5 =>
      bI (F_X0_find N v5 x1 x2 h4) fun r6 h7 =>
      if inb ((x1 * (7 : Int32)) + x2) 21504 = true then
      hb (hs h7 36 ((x1 * (7 : Int32)) + x2).toNatClampNeg r6) fun h9 =>
      ib (x2 + (1 : Int32)) fun v10 =>
      F_X0_explore_b81 N rc64 n x1 v10 h9
      else none
      else none
set_option maxRecDepth 20000 in
set_option maxHeartbeats 4000000 in
theorem T_X0_explore_b81 {X : CT} (C : CX X 103 cX0_explore 4 RX0 none 4 97) {h0 : PH} {N : Nat} {rc64 : Int32 → PH → Option PH} (hr64 : ∀ (x1 : Int32) (h : PH), rc64 x1 h = some h0 → V X (QV X h0) h 64 [some (.ref 21), some (.int x1), none, none] []) : ∀ (n : Nat) (x1 : Int32) (x2 : Int32) (h : PH), F_X0_explore_b81 N rc64 n x1 x2 h = some h0 → V X (QV X h0) h 81 [some (.ref 21), some (.int x1), some (.int x2), none] [] := by
  intro n
  induction n with
  | zero =>
    intro x1 x2 h hyp
    cases hyp
  | succ n ih =>
    intro x1 x2 h hyp
    unfold F_X0_explore_b81 at hyp
    refine V_iload_n (pc := 81) C dX0_explore_81 rfl ?_
    refine V_aload_n (pc := 82) C dX0_explore_82 rfl ?_
    refine V_getR (pc := 83) C dX0_explore_83 lf_X0_47 fk_21_0 ?_
    refine V_getI (pc := 86) C dX0_explore_86 lf_X0_62 fk_14_1 ?_
    refine V_icmp_gt (pc := 89) C dX0_explore_89 (tgt := 137) (by decide) (fun q1 => ?_) (fun q1 => ?_)
    · replace hyp := (if_pos q1).symm.trans hyp
      refine V_weak (lv' := [some (.ref 21), some (.int x1), none, none]) (lvle_s (lvle_s (lvle_n (lvle_n lvle_0)))) ?_
      exact (T_X0_explore_b137 C hr64) x1 h hyp
    · replace hyp := (if_neg q1).symm.trans hyp
      refine V_aload_n (pc := 92) C dX0_explore_92 rfl ?_
      refine V_getR (pc := 93) C dX0_explore_93 lf_X0_47 fk_21_0 ?_
      refine V_aload_n (pc := 96) C dX0_explore_96 rfl ?_
      refine V_getR (pc := 97) C dX0_explore_97 lf_X0_20 fk_21_3 ?_
      refine V_iload_n (pc := 100) C dX0_explore_100 rfl ?_
      obtain ⟨g2, hyp⟩ := gd_n hyp
      refine V_iald (pc := 101) C dX0_explore_101 ak_30 g2 ?_
      refine V_iload_n (pc := 102) C dX0_explore_102 rfl ?_
      refine V_iconst (pc := 103) C dX0_explore_103 (v := 1) (by decide) ?_
      refine V_isub (pc := 104) C dX0_explore_104 ?_
      obtain ⟨r3, h4, eh4, hyp⟩ := bI_n hyp
      refine V_callI (pc := 105) C dX0_explore_105 lm_X0_77 mk_X4_step ok_14 rfl (M_X4_step _ eh4) rfl pd_X4_step (by decide) (by decide) (by decide) (As := [.int (h.1 30 x1.toNatClampNeg), .int (x2 - (1 : Int32))]) (rest := []) rfl (Nat.le_of_ble_eq_true rfl) ?_
      refine V_sipush (pc := 108) C dX0_explore_108 (v := -4097) (by decide) ?_
      refine V_iand (pc := 111) C dX0_explore_111 ?_
      obtain ⟨v5, ev5, hyp⟩ := ib_n hyp
      refine V_topI ev5 ?_
      refine V_istore_n (pc := 112) C dX0_explore_112 (by decide) rfl ?_
      refine V_aload_n (pc := 113) C dX0_explore_113 rfl ?_
      refine V_getR (pc := 114) C dX0_explore_114 lf_X0_38 fk_21_9 ?_
      refine V_iload_n (pc := 117) C dX0_explore_117 rfl ?_
      refine V_bipush (pc := 118) C dX0_explore_118 (v := 7) (by decide) ?_
      refine V_imul (pc := 120) C dX0_explore_120 ?_
      refine V_iload_n (pc := 121) C dX0_explore_121 rfl ?_
      refine V_iadd (pc := 122) C dX0_explore_122 ?_
      refine V_aload_n (pc := 123) C dX0_explore_123 rfl ?_
      refine V_iload_n (pc := 124) C dX0_explore_124 rfl ?_
      refine V_iload_n (pc := 125) C dX0_explore_125 rfl ?_
      refine V_iload_n (pc := 126) C dX0_explore_126 rfl ?_
      obtain ⟨r6, h7, eh7, hyp⟩ := bI_n hyp
      refine V_callI (pc := 127) C dX0_explore_127 lm_X0_73 mk_X0_find ok_21 rfl (M_X0_find _ eh7) rfl pd_X0_find (by decide) (by decide) (by decide) (As := [.int v5, .int x1, .int x2]) (rest := [.int ((x1 * (7 : Int32)) + x2), .ref 36]) rfl (Nat.le_of_ble_eq_true rfl) ?_
      obtain ⟨g8, hyp⟩ := gd_n hyp
      obtain ⟨h9, eh9, hyp⟩ := hb_n hyp
      refine V_iast (pc := 130) C dX0_explore_130 ak_36 g8 eh9 ?_
      obtain ⟨v10, ev10, hyp⟩ := ib_n hyp
      refine V_iinc (pc := 131) C dX0_explore_131 (v := v10) rfl (by rw [ev10]; rfl) (by decide) rfl ?_
      refine V_goto (pc := 134) C dX0_explore_134 (tgt := 81) (by decide) ?_
      refine V_weak (lv' := [some (.ref 21), some (.int x1), some (.int v10), none]) (lvle_s (lvle_s (lvle_s (lvle_n lvle_0)))) ?_
      exact ih x1 v10 h9 hyp
def F_X0_explore_b143 (N : Nat) (h : PH) : Option PH :=
  hb (hs h 21 12 (1 : Int32)) fun h1 =>
  some h1
set_option maxRecDepth 20000 in
set_option maxHeartbeats 4000000 in
theorem T_X0_explore_b143 {X : CT} (C : CX X 103 cX0_explore 4 RX0 none 4 97) {h0 : PH} {N : Nat} : ∀ (h : PH), F_X0_explore_b143 N  h = some h0 → V X (QV X h0) h 143 [some (.ref 21), none, none, none] [] := by
  intro  h hyp
  unfold F_X0_explore_b143 at hyp
  refine V_aload_n (pc := 143) C dX0_explore_143 rfl ?_
  refine V_iconst (pc := 144) C dX0_explore_144 (v := 1) (by decide) ?_
  obtain ⟨h1, eh1, hyp⟩ := hb_n hyp
  refine V_putI (pc := 145) C dX0_explore_145 lf_X0_51 fk_21_12 rfl rfl eh1 ?_
  cases hyp
  exact V_vret C dX0_explore_148
def F_X0_explore_b64 (N : Nat) : Nat → Int32 → PH → Option PH
  | 0, _, _ => none
  | n + 1, x1, h =>
    if (h.1 21 13) ≤ x1 then
      F_X0_explore_b143 N  h
    else
      if (3072 : Int32) ≤ x1 then
        F_X0_explore_b143 N  h
      else
        F_X0_explore_b81 N (F_X0_explore_b64 N n) N x1 (0 : Int32) h
set_option maxRecDepth 20000 in
set_option maxHeartbeats 4000000 in
theorem T_X0_explore_b64 {X : CT} (C : CX X 103 cX0_explore 4 RX0 none 4 97) {h0 : PH} {N : Nat} : ∀ (n : Nat) (x1 : Int32) (h : PH), F_X0_explore_b64 N n x1 h = some h0 → V X (QV X h0) h 64 [some (.ref 21), some (.int x1), none, none] [] := by
  intro n
  induction n with
  | zero =>
    intro x1 h hyp
    cases hyp
  | succ n ih =>
    intro x1 h hyp
    unfold F_X0_explore_b64 at hyp
    refine V_iload_n (pc := 64) C dX0_explore_64 rfl ?_
    refine V_aload_n (pc := 65) C dX0_explore_65 rfl ?_
    refine V_getI (pc := 66) C dX0_explore_66 lf_X0_58 fk_21_13 ?_
    refine V_icmp_ge (pc := 69) C dX0_explore_69 (tgt := 143) (by decide) (fun q1 => ?_) (fun q1 => ?_)
    · replace hyp := (if_pos q1).symm.trans hyp
      refine V_weak (lv' := [some (.ref 21), none, none, none]) (lvle_s (lvle_n (lvle_n (lvle_n lvle_0)))) ?_
      exact (T_X0_explore_b143 C) h hyp
    · replace hyp := (if_neg q1).symm.trans hyp
      refine V_iload_n (pc := 72) C dX0_explore_72 rfl ?_
      refine V_sipush (pc := 73) C dX0_explore_73 (v := 3072) (by decide) ?_
      refine V_icmp_ge (pc := 76) C dX0_explore_76 (tgt := 143) (by decide) (fun q2 => ?_) (fun q2 => ?_)
      · replace hyp := (if_pos q2).symm.trans hyp
        refine V_weak (lv' := [some (.ref 21), none, none, none]) (lvle_s (lvle_n (lvle_n (lvle_n lvle_0)))) ?_
        exact (T_X0_explore_b143 C) h hyp
      · replace hyp := (if_neg q2).symm.trans hyp
        refine V_iconst (pc := 79) C dX0_explore_79 (v := 0) (by decide) ?_
        refine V_istore_n (pc := 80) C dX0_explore_80 (by decide) rfl ?_
        refine V_weak (lv' := [some (.ref 21), some (.int x1), some (.int (0 : Int32)), none]) (lvle_s (lvle_s (lvle_s (lvle_n lvle_0)))) ?_
        exact (T_X0_explore_b81 C ih) N x1 (0 : Int32) h hyp
def F_X0_explore_b49 (N : Nat) (h : PH) : Option PH :=
  hb (hs h 21 13 (0 : Int32)) fun h1 =>
  bI (F_X0_find N (0 : Int32) (-1 : Int32) (0 : Int32) h1) fun r2 h3 =>
  F_X0_explore_b64 N N (0 : Int32) h3
set_option maxRecDepth 20000 in
set_option maxHeartbeats 4000000 in
theorem T_X0_explore_b49 {X : CT} (C : CX X 103 cX0_explore 4 RX0 none 4 97) {h0 : PH} {N : Nat} : ∀ (h : PH), F_X0_explore_b49 N  h = some h0 → V X (QV X h0) h 49 [some (.ref 21), none, none, none] [] := by
  intro  h hyp
  unfold F_X0_explore_b49 at hyp
  refine V_aload_n (pc := 49) C dX0_explore_49 rfl ?_
  refine V_iconst (pc := 50) C dX0_explore_50 (v := 0) (by decide) ?_
  obtain ⟨h1, eh1, hyp⟩ := hb_n hyp
  refine V_putI (pc := 51) C dX0_explore_51 lf_X0_58 fk_21_13 rfl rfl eh1 ?_
  refine V_aload_n (pc := 54) C dX0_explore_54 rfl ?_
  refine V_iconst (pc := 55) C dX0_explore_55 (v := 0) (by decide) ?_
  refine V_iconst (pc := 56) C dX0_explore_56 (v := -1) (by decide) ?_
  refine V_iconst (pc := 57) C dX0_explore_57 (v := 0) (by decide) ?_
  obtain ⟨r2, h3, eh3, hyp⟩ := bI_n hyp
  refine V_callI (pc := 58) C dX0_explore_58 lm_X0_73 mk_X0_find ok_21 rfl (M_X0_find _ eh3) rfl pd_X0_find (by decide) (by decide) (by decide) (As := [.int (0 : Int32), .int (-1 : Int32), .int (0 : Int32)]) (rest := []) rfl (Nat.le_of_ble_eq_true rfl) ?_
  refine V_pop (pc := 61) C dX0_explore_61 rfl ?_
  refine V_iconst (pc := 62) C dX0_explore_62 (v := 0) (by decide) ?_
  refine V_istore_n (pc := 63) C dX0_explore_63 (by decide) rfl ?_
  refine V_weak (lv' := [some (.ref 21), some (.int (0 : Int32)), none, none]) (lvle_s (lvle_s (lvle_n (lvle_n lvle_0)))) ?_
  exact (T_X0_explore_b64 C) N (0 : Int32) h3 hyp
def F_X0_explore_b27 (N : Nat) : Nat → Int32 → PH → Option PH
  | 0, _, _ => none
  | n + 1, x1, h =>
    if (6 : Int32) ≤ x1 then
      F_X0_explore_b49 N  h
    else
      if inb x1 6 = true then
      if inb (0 : Int32) 61 = true then
      hb (hs h (24 + x1.toNatClampNeg) (0 : Int32).toNatClampNeg (-2 : Int32)) fun h4 =>
      ib (x1 + (1 : Int32)) fun v5 =>
      F_X0_explore_b27 N n v5 h4
      else none
      else none
set_option maxRecDepth 20000 in
set_option maxHeartbeats 4000000 in
theorem T_X0_explore_b27 {X : CT} (C : CX X 103 cX0_explore 4 RX0 none 4 97) {h0 : PH} {N : Nat} : ∀ (n : Nat) (x1 : Int32) (h : PH), F_X0_explore_b27 N n x1 h = some h0 → V X (QV X h0) h 27 [some (.ref 21), some (.int x1), none, none] [] := by
  intro n
  induction n with
  | zero =>
    intro x1 h hyp
    cases hyp
  | succ n ih =>
    intro x1 h hyp
    unfold F_X0_explore_b27 at hyp
    refine V_iload_n (pc := 27) C dX0_explore_27 rfl ?_
    refine V_bipush (pc := 28) C dX0_explore_28 (v := 6) (by decide) ?_
    refine V_icmp_ge (pc := 30) C dX0_explore_30 (tgt := 49) (by decide) (fun q1 => ?_) (fun q1 => ?_)
    · replace hyp := (if_pos q1).symm.trans hyp
      refine V_weak (lv' := [some (.ref 21), none, none, none]) (lvle_s (lvle_n (lvle_n (lvle_n lvle_0)))) ?_
      exact (T_X0_explore_b49 C) h hyp
    · replace hyp := (if_neg q1).symm.trans hyp
      refine V_aload_n (pc := 33) C dX0_explore_33 rfl ?_
      refine V_getR (pc := 34) C dX0_explore_34 lf_X0_17 fk_21_2 ?_
      refine V_iload_n (pc := 37) C dX0_explore_37 rfl ?_
      obtain ⟨g2, hyp⟩ := gd_n hyp
      refine V_aald (pc := 38) C dX0_explore_38 ak_23 g2 ?_
      refine V_iconst (pc := 39) C dX0_explore_39 (v := 0) (by decide) ?_
      refine V_bipush (pc := 40) C dX0_explore_40 (v := -2) (by decide) ?_
      obtain ⟨g3, hyp⟩ := gd_n hyp
      obtain ⟨h4, eh4, hyp⟩ := hb_n hyp
      refine V_iast (pc := 42) C dX0_explore_42 (akr_23 g2) g3 eh4 ?_
      obtain ⟨v5, ev5, hyp⟩ := ib_n hyp
      refine V_iinc (pc := 43) C dX0_explore_43 (v := v5) rfl (by rw [ev5]; rfl) (by decide) rfl ?_
      refine V_goto (pc := 46) C dX0_explore_46 (tgt := 27) (by decide) ?_
      refine V_weak (lv' := [some (.ref 21), some (.int v5), none, none]) (lvle_s (lvle_s (lvle_n (lvle_n lvle_0)))) ?_
      exact ih v5 h4 hyp
def F_X0_explore (N : Nat) (h : PH) : Option PH :=
  if (h.1 21 12) = 0 then
    hb (hfill h 31 4096 (-1 : Int32)) fun h2 =>
    hb (hfill h2 22 6 (-2 : Int32)) fun h3 =>
    F_X0_explore_b27 N N (0 : Int32) h3
  else
    some h
set_option maxRecDepth 20000 in
set_option maxHeartbeats 4000000 in
theorem M_X0_explore (E : EV) {N : Nat} {h h2 : PH} (hyp : F_X0_explore N  h = some h2) : MV E 103 yX0_explore cX0_explore 4 none 4 97 [.ref 21] h h2 := by
  refine MV.of 3 (by decide) rfl (fun X e1 C => ?_)
  subst e1
  replace C : CX X 103 cX0_explore 4 RX0 none 4 97 := C
  show V X _ h 0 [some (.ref 21), none, none, none] []
  unfold F_X0_explore at hyp
  refine V_aload_n (pc := 0) C dX0_explore_0 rfl ?_
  refine V_getI (pc := 1) C dX0_explore_1 lf_X0_51 fk_21_12 ?_
  refine V_if_eq (pc := 4) C dX0_explore_4 (tgt := 8) (by decide) (fun q1 => ?_) (fun q1 => ?_)
  · replace hyp := (if_pos q1).symm.trans hyp
    refine V_aload_n (pc := 8) C dX0_explore_8 rfl ?_
    refine V_getR (pc := 9) C dX0_explore_9 lf_X0_23 fk_21_4 ?_
    refine V_iconst (pc := 12) C dX0_explore_12 (v := -1) (by decide) ?_
    obtain ⟨h2, eh2, hyp⟩ := hb_n hyp
    refine V_statV (pc := 13) C dX0_explore_13 lm_X0_67 ms_J7_fill_53178 (M_fill _ ak_31 (by decide) eh2) rfl pd_J7_fill_53178 (by decide) (by decide) (by decide) (rest := []) rfl (Nat.le_of_ble_eq_true rfl) ?_
    refine V_aload_n (pc := 16) C dX0_explore_16 rfl ?_
    refine V_getR (pc := 17) C dX0_explore_17 lf_X0_9 fk_21_1 ?_
    refine V_bipush (pc := 20) C dX0_explore_20 (v := -2) (by decide) ?_
    obtain ⟨h3, eh3, hyp⟩ := hb_n hyp
    refine V_statV (pc := 22) C dX0_explore_22 lm_X0_67 ms_J7_fill_53178 (M_fill _ ak_22 (by decide) eh3) rfl pd_J7_fill_53178 (by decide) (by decide) (by decide) (rest := []) rfl (Nat.le_of_ble_eq_true rfl) ?_
    refine V_iconst (pc := 25) C dX0_explore_25 (v := 0) (by decide) ?_
    refine V_istore_n (pc := 26) C dX0_explore_26 (by decide) rfl ?_
    refine V_weak (lv' := [some (.ref 21), some (.int (0 : Int32)), none, none]) (lvle_s (lvle_s (lvle_n (lvle_n lvle_0)))) ?_
    exact (T_X0_explore_b27 C) N (0 : Int32) h3 hyp
  · replace hyp := (if_neg q1).symm.trans hyp
    cases hyp
    exact V_vret C dX0_explore_7
theorem dX0_howMany_0 : decode cX0_howMany 0 = .ok (.aload_n 0, 1) := by decide +kernel
theorem dX0_howMany_1 : decode cX0_howMany 1 = .ok (.invokevirtual 55, 3) := by decide +kernel
theorem dX0_howMany_4 : decode cX0_howMany 4 = .ok (.aload_n 0, 1) := by decide +kernel
theorem dX0_howMany_5 : decode cX0_howMany 5 = .ok (.getfield 58, 3) := by decide +kernel
theorem dX0_howMany_8 : decode cX0_howMany 8 = .ok (.ireturn, 1) := by decide +kernel
def F_X0_howMany (N : Nat) (h : PH) : Option (Int32 × PH) :=
  bV (F_X0_explore N  h) fun h2 =>
  some (h2.1 21 13, h2)
set_option maxRecDepth 20000 in
set_option maxHeartbeats 4000000 in
theorem M_X0_howMany (E : EV) {N : Nat} {r : Int32} {h h2 : PH} (hyp : F_X0_howMany N  h = some (r, h2)) : MI E 103 yX0_howMany cX0_howMany 1 (some .int) 5 120 [.ref 21] h r h2 := by
  refine MI.of 0 (by decide) rfl (fun X e1 C => ?_)
  subst e1
  replace C : CX X 103 cX0_howMany 1 RX0 (some .int) 5 120 := C
  show V X _ h 0 [some (.ref 21)] []
  unfold F_X0_howMany at hyp
  refine V_aload_n (pc := 0) C dX0_howMany_0 rfl ?_
  obtain ⟨h2, eh2, hyp⟩ := bV_n hyp
  refine V_callV (pc := 1) C dX0_howMany_1 lm_X0_55 mk_X0_explore ok_21 rfl (M_X0_explore _ eh2) rfl pd_X0_explore (by decide) (by decide) (by decide) (As := []) (rest := []) rfl (Nat.le_of_ble_eq_true rfl) ?_
  refine V_aload_n (pc := 4) C dX0_howMany_4 rfl ?_
  refine V_getI (pc := 5) C dX0_howMany_5 lf_X0_58 fk_21_13 ?_
  cases hyp
  exact V_iret C dX0_howMany_8
theorem dX0_stateAt_0 : decode cX0_stateAt 0 = .ok (.iload_n 1, 1) := by decide +kernel
theorem dX0_stateAt_1 : decode cX0_stateAt 1 = .ok (.ifCond .lt 20, 3) := by decide +kernel
theorem dX0_stateAt_4 : decode cX0_stateAt 4 = .ok (.iload_n 1, 1) := by decide +kernel
theorem dX0_stateAt_5 : decode cX0_stateAt 5 = .ok (.aload_n 0, 1) := by decide +kernel
theorem dX0_stateAt_6 : decode cX0_stateAt 6 = .ok (.getfield 58, 3) := by decide +kernel
theorem dX0_stateAt_9 : decode cX0_stateAt 9 = .ok (.if_icmp .ge 12, 3) := by decide +kernel
theorem dX0_stateAt_12 : decode cX0_stateAt 12 = .ok (.aload_n 0, 1) := by decide +kernel
theorem dX0_stateAt_13 : decode cX0_stateAt 13 = .ok (.getfield 20, 3) := by decide +kernel
theorem dX0_stateAt_16 : decode cX0_stateAt 16 = .ok (.iload_n 1, 1) := by decide +kernel
theorem dX0_stateAt_17 : decode cX0_stateAt 17 = .ok (.iaload, 1) := by decide +kernel
theorem dX0_stateAt_18 : decode cX0_stateAt 18 = .ok (.goto 4, 3) := by decide +kernel
theorem dX0_stateAt_21 : decode cX0_stateAt 21 = .ok (.iconst 0, 1) := by decide +kernel
theorem dX0_stateAt_22 : decode cX0_stateAt 22 = .ok (.ireturn, 1) := by decide +kernel
def F_X0_stateAt_b21 (h : PH) : Option (Int32 × PH) :=
  some ((0 : Int32), h)
set_option maxRecDepth 20000 in
set_option maxHeartbeats 4000000 in
theorem T_X0_stateAt_b21 {X : CT} (C : CX X 103 cX0_stateAt 2 RX0 (some .int) 0 0) {r0 : Int32} {h0 : PH} : ∀ (h : PH), F_X0_stateAt_b21  h = some (r0, h0) → V X (QI X r0 h0) h 21 [none, none] [] := by
  intro  h hyp
  unfold F_X0_stateAt_b21 at hyp
  refine V_iconst (pc := 21) C dX0_stateAt_21 (v := 0) (by decide) ?_
  cases hyp
  exact V_iret C dX0_stateAt_22
def F_X0_stateAt (a1 : Int32) (h : PH) : Option (Int32 × PH) :=
  if a1 < 0 then
    F_X0_stateAt_b21  h
  else
    if (h.1 21 13) ≤ a1 then
      F_X0_stateAt_b21  h
    else
      if inb a1 3072 = true then
      some (h.1 30 a1.toNatClampNeg, h)
      else none
set_option maxRecDepth 20000 in
set_option maxHeartbeats 4000000 in
theorem M_X0_stateAt (E : EV) {a1 : Int32} {r : Int32} {h h2 : PH} (hyp : F_X0_stateAt a1 h = some (r, h2)) : MI E 103 yX0_stateAt cX0_stateAt 2 (some .int) 0 0 [.ref 21, .int a1] h r h2 := by
  refine MI.of 0 (by decide) rfl (fun X e1 C => ?_)
  subst e1
  replace C : CX X 103 cX0_stateAt 2 RX0 (some .int) 0 0 := C
  show V X _ h 0 [some (.ref 21), some (.int a1)] []
  unfold F_X0_stateAt at hyp
  refine V_iload_n (pc := 0) C dX0_stateAt_0 rfl ?_
  refine V_if_lt (pc := 1) C dX0_stateAt_1 (tgt := 21) (by decide) (fun q1 => ?_) (fun q1 => ?_)
  · replace hyp := (if_pos q1).symm.trans hyp
    refine V_weak (lv' := [none, none]) (lvle_n (lvle_n lvle_0)) ?_
    exact (T_X0_stateAt_b21 C) h hyp
  · replace hyp := (if_neg q1).symm.trans hyp
    refine V_iload_n (pc := 4) C dX0_stateAt_4 rfl ?_
    refine V_aload_n (pc := 5) C dX0_stateAt_5 rfl ?_
    refine V_getI (pc := 6) C dX0_stateAt_6 lf_X0_58 fk_21_13 ?_
    refine V_icmp_ge (pc := 9) C dX0_stateAt_9 (tgt := 21) (by decide) (fun q2 => ?_) (fun q2 => ?_)
    · replace hyp := (if_pos q2).symm.trans hyp
      refine V_weak (lv' := [none, none]) (lvle_n (lvle_n lvle_0)) ?_
      exact (T_X0_stateAt_b21 C) h hyp
    · replace hyp := (if_neg q2).symm.trans hyp
      refine V_aload_n (pc := 12) C dX0_stateAt_12 rfl ?_
      refine V_getR (pc := 13) C dX0_stateAt_13 lf_X0_20 fk_21_3 ?_
      refine V_iload_n (pc := 16) C dX0_stateAt_16 rfl ?_
      obtain ⟨g3, hyp⟩ := gd_n hyp
      refine V_iald (pc := 17) C dX0_stateAt_17 ak_30 g3 ?_
      refine V_goto (pc := 18) C dX0_stateAt_18 (tgt := 22) (by decide) ?_
      cases hyp
      exact V_iret C dX0_stateAt_22
theorem dX0_lampsAt_0 : decode cX0_lampsAt 0 = .ok (.iload_n 1, 1) := by decide +kernel
theorem dX0_lampsAt_1 : decode cX0_lampsAt 1 = .ok (.ifCond .lt 20, 3) := by decide +kernel
theorem dX0_lampsAt_4 : decode cX0_lampsAt 4 = .ok (.iload_n 1, 1) := by decide +kernel
theorem dX0_lampsAt_5 : decode cX0_lampsAt 5 = .ok (.aload_n 0, 1) := by decide +kernel
theorem dX0_lampsAt_6 : decode cX0_lampsAt 6 = .ok (.getfield 58, 3) := by decide +kernel
theorem dX0_lampsAt_9 : decode cX0_lampsAt 9 = .ok (.if_icmp .ge 12, 3) := by decide +kernel
theorem dX0_lampsAt_12 : decode cX0_lampsAt 12 = .ok (.aload_n 0, 1) := by decide +kernel
theorem dX0_lampsAt_13 : decode cX0_lampsAt 13 = .ok (.getfield 35, 3) := by decide +kernel
theorem dX0_lampsAt_16 : decode cX0_lampsAt 16 = .ok (.iload_n 1, 1) := by decide +kernel
theorem dX0_lampsAt_17 : decode cX0_lampsAt 17 = .ok (.iaload, 1) := by decide +kernel
theorem dX0_lampsAt_18 : decode cX0_lampsAt 18 = .ok (.goto 4, 3) := by decide +kernel
theorem dX0_lampsAt_21 : decode cX0_lampsAt 21 = .ok (.iconst 0, 1) := by decide +kernel
theorem dX0_lampsAt_22 : decode cX0_lampsAt 22 = .ok (.ireturn, 1) := by decide +kernel
def F_X0_lampsAt_b21 (h : PH) : Option (Int32 × PH) :=
  some ((0 : Int32), h)
set_option maxRecDepth 20000 in
set_option maxHeartbeats 4000000 in
theorem T_X0_lampsAt_b21 {X : CT} (C : CX X 103 cX0_lampsAt 2 RX0 (some .int) 0 0) {r0 : Int32} {h0 : PH} : ∀ (h : PH), F_X0_lampsAt_b21  h = some (r0, h0) → V X (QI X r0 h0) h 21 [none, none] [] := by
  intro  h hyp
  unfold F_X0_lampsAt_b21 at hyp
  refine V_iconst (pc := 21) C dX0_lampsAt_21 (v := 0) (by decide) ?_
  cases hyp
  exact V_iret C dX0_lampsAt_22
def F_X0_lampsAt (a1 : Int32) (h : PH) : Option (Int32 × PH) :=
  if a1 < 0 then
    F_X0_lampsAt_b21  h
  else
    if (h.1 21 13) ≤ a1 then
      F_X0_lampsAt_b21  h
    else
      if inb a1 3072 = true then
      some (h.1 35 a1.toNatClampNeg, h)
      else none
set_option maxRecDepth 20000 in
set_option maxHeartbeats 4000000 in
theorem M_X0_lampsAt (E : EV) {a1 : Int32} {r : Int32} {h h2 : PH} (hyp : F_X0_lampsAt a1 h = some (r, h2)) : MI E 103 yX0_lampsAt cX0_lampsAt 2 (some .int) 0 0 [.ref 21, .int a1] h r h2 := by
  refine MI.of 0 (by decide) rfl (fun X e1 C => ?_)
  subst e1
  replace C : CX X 103 cX0_lampsAt 2 RX0 (some .int) 0 0 := C
  show V X _ h 0 [some (.ref 21), some (.int a1)] []
  unfold F_X0_lampsAt at hyp
  refine V_iload_n (pc := 0) C dX0_lampsAt_0 rfl ?_
  refine V_if_lt (pc := 1) C dX0_lampsAt_1 (tgt := 21) (by decide) (fun q1 => ?_) (fun q1 => ?_)
  · replace hyp := (if_pos q1).symm.trans hyp
    refine V_weak (lv' := [none, none]) (lvle_n (lvle_n lvle_0)) ?_
    exact (T_X0_lampsAt_b21 C) h hyp
  · replace hyp := (if_neg q1).symm.trans hyp
    refine V_iload_n (pc := 4) C dX0_lampsAt_4 rfl ?_
    refine V_aload_n (pc := 5) C dX0_lampsAt_5 rfl ?_
    refine V_getI (pc := 6) C dX0_lampsAt_6 lf_X0_58 fk_21_13 ?_
    refine V_icmp_ge (pc := 9) C dX0_lampsAt_9 (tgt := 21) (by decide) (fun q2 => ?_) (fun q2 => ?_)
    · replace hyp := (if_pos q2).symm.trans hyp
      refine V_weak (lv' := [none, none]) (lvle_n (lvle_n lvle_0)) ?_
      exact (T_X0_lampsAt_b21 C) h hyp
    · replace hyp := (if_neg q2).symm.trans hyp
      refine V_aload_n (pc := 12) C dX0_lampsAt_12 rfl ?_
      refine V_getR (pc := 13) C dX0_lampsAt_13 lf_X0_35 fk_21_8 ?_
      refine V_iload_n (pc := 16) C dX0_lampsAt_16 rfl ?_
      obtain ⟨g3, hyp⟩ := gd_n hyp
      refine V_iald (pc := 17) C dX0_lampsAt_17 ak_35 g3 ?_
      refine V_goto (pc := 18) C dX0_lampsAt_18 (tgt := 22) (by decide) ?_
      cases hyp
      exact V_iret C dX0_lampsAt_22
theorem dX0_behind_0 : decode cX0_behind 0 = .ok (.iload_n 1, 1) := by decide +kernel
theorem dX0_behind_1 : decode cX0_behind 1 = .ok (.ifCond .lt 21, 3) := by decide +kernel
theorem dX0_behind_4 : decode cX0_behind 4 = .ok (.iload_n 1, 1) := by decide +kernel
theorem dX0_behind_5 : decode cX0_behind 5 = .ok (.aload_n 0, 1) := by decide +kernel
theorem dX0_behind_6 : decode cX0_behind 6 = .ok (.getfield 58, 3) := by decide +kernel
theorem dX0_behind_9 : decode cX0_behind 9 = .ok (.if_icmp .ge 13, 3) := by decide +kernel
theorem dX0_behind_12 : decode cX0_behind 12 = .ok (.iload_n 2, 1) := by decide +kernel
theorem dX0_behind_13 : decode cX0_behind 13 = .ok (.ifCond .lt 9, 3) := by decide +kernel
theorem dX0_behind_16 : decode cX0_behind 16 = .ok (.iload_n 2, 1) := by decide +kernel
theorem dX0_behind_17 : decode cX0_behind 17 = .ok (.bipush 7, 2) := by decide +kernel
theorem dX0_behind_19 : decode cX0_behind 19 = .ok (.if_icmp .lt 5, 3) := by decide +kernel
theorem dX0_behind_22 : decode cX0_behind 22 = .ok (.iconst 0, 1) := by decide +kernel
theorem dX0_behind_23 : decode cX0_behind 23 = .ok (.ireturn, 1) := by decide +kernel
theorem dX0_behind_24 : decode cX0_behind 24 = .ok (.aload_n 0, 1) := by decide +kernel
theorem dX0_behind_25 : decode cX0_behind 25 = .ok (.getfield 38, 3) := by decide +kernel
theorem dX0_behind_28 : decode cX0_behind 28 = .ok (.iload_n 1, 1) := by decide +kernel
theorem dX0_behind_29 : decode cX0_behind 29 = .ok (.bipush 7, 2) := by decide +kernel
theorem dX0_behind_31 : decode cX0_behind 31 = .ok (.imul, 1) := by decide +kernel
theorem dX0_behind_32 : decode cX0_behind 32 = .ok (.iload_n 2, 1) := by decide +kernel
theorem dX0_behind_33 : decode cX0_behind 33 = .ok (.iadd, 1) := by decide +kernel
theorem dX0_behind_34 : decode cX0_behind 34 = .ok (.iaload, 1) := by decide +kernel
theorem dX0_behind_35 : decode cX0_behind 35 = .ok (.ireturn, 1) := by decide +kernel
def F_X0_behind (a1 : Int32) (a2 : Int32) (h : PH) : Option (Int32 × PH) :=
  if a1 < 0 then
    some ((0 : Int32), h)
  else
    if (h.1 21 13) ≤ a1 then
      some ((0 : Int32), h)
    else
      if a2 < 0 then
        some ((0 : Int32), h)
      else
        if a2 < (7 : Int32) then
          if inb ((a1 * (7 : Int32)) + a2) 21504 = true then
          some (h.1 36 ((a1 * (7 : Int32)) + a2).toNatClampNeg, h)
          else none
        else
          some ((0 : Int32), h)
set_option maxRecDepth 20000 in
set_option maxHeartbeats 4000000 in
theorem M_X0_behind (E : EV) {a1 : Int32} {a2 : Int32} {r : Int32} {h h2 : PH} (hyp : F_X0_behind a1 a2 h = some (r, h2)) : MI E 103 yX0_behind cX0_behind 3 (some .int) 0 0 [.ref 21, .int a1, .int a2] h r h2 := by
  refine MI.of 0 (by decide) rfl (fun X e1 C => ?_)
  subst e1
  replace C : CX X 103 cX0_behind 3 RX0 (some .int) 0 0 := C
  show V X _ h 0 [some (.ref 21), some (.int a1), some (.int a2)] []
  unfold F_X0_behind at hyp
  refine V_iload_n (pc := 0) C dX0_behind_0 rfl ?_
  refine V_if_lt (pc := 1) C dX0_behind_1 (tgt := 22) (by decide) (fun q1 => ?_) (fun q1 => ?_)
  · replace hyp := (if_pos q1).symm.trans hyp
    refine V_iconst (pc := 22) C dX0_behind_22 (v := 0) (by decide) ?_
    cases hyp
    exact V_iret C dX0_behind_23
  · replace hyp := (if_neg q1).symm.trans hyp
    refine V_iload_n (pc := 4) C dX0_behind_4 rfl ?_
    refine V_aload_n (pc := 5) C dX0_behind_5 rfl ?_
    refine V_getI (pc := 6) C dX0_behind_6 lf_X0_58 fk_21_13 ?_
    refine V_icmp_ge (pc := 9) C dX0_behind_9 (tgt := 22) (by decide) (fun q2 => ?_) (fun q2 => ?_)
    · replace hyp := (if_pos q2).symm.trans hyp
      refine V_iconst (pc := 22) C dX0_behind_22 (v := 0) (by decide) ?_
      cases hyp
      exact V_iret C dX0_behind_23
    · replace hyp := (if_neg q2).symm.trans hyp
      refine V_iload_n (pc := 12) C dX0_behind_12 rfl ?_
      refine V_if_lt (pc := 13) C dX0_behind_13 (tgt := 22) (by decide) (fun q3 => ?_) (fun q3 => ?_)
      · replace hyp := (if_pos q3).symm.trans hyp
        refine V_iconst (pc := 22) C dX0_behind_22 (v := 0) (by decide) ?_
        cases hyp
        exact V_iret C dX0_behind_23
      · replace hyp := (if_neg q3).symm.trans hyp
        refine V_iload_n (pc := 16) C dX0_behind_16 rfl ?_
        refine V_bipush (pc := 17) C dX0_behind_17 (v := 7) (by decide) ?_
        refine V_icmp_lt (pc := 19) C dX0_behind_19 (tgt := 24) (by decide) (fun q4 => ?_) (fun q4 => ?_)
        · replace hyp := (if_pos q4).symm.trans hyp
          refine V_aload_n (pc := 24) C dX0_behind_24 rfl ?_
          refine V_getR (pc := 25) C dX0_behind_25 lf_X0_38 fk_21_9 ?_
          refine V_iload_n (pc := 28) C dX0_behind_28 rfl ?_
          refine V_bipush (pc := 29) C dX0_behind_29 (v := 7) (by decide) ?_
          refine V_imul (pc := 31) C dX0_behind_31 ?_
          refine V_iload_n (pc := 32) C dX0_behind_32 rfl ?_
          refine V_iadd (pc := 33) C dX0_behind_33 ?_
          obtain ⟨g5, hyp⟩ := gd_n hyp
          refine V_iald (pc := 34) C dX0_behind_34 ak_36 g5 ?_
          cases hyp
          exact V_iret C dX0_behind_35
        · replace hyp := (if_neg q4).symm.trans hyp
          refine V_iconst (pc := 22) C dX0_behind_22 (v := 0) (by decide) ?_
          cases hyp
          exact V_iret C dX0_behind_23
theorem dX0_choices_0 : decode cX0_choices 0 = .ok (.iconst 1, 1) := by decide +kernel
theorem dX0_choices_1 : decode cX0_choices 1 = .ok (.aload_n 0, 1) := by decide +kernel
theorem dX0_choices_2 : decode cX0_choices 2 = .ok (.getfield 47, 3) := by decide +kernel
theorem dX0_choices_5 : decode cX0_choices 5 = .ok (.getfield 62, 3) := by decide +kernel
theorem dX0_choices_8 : decode cX0_choices 8 = .ok (.iadd, 1) := by decide +kernel
theorem dX0_choices_9 : decode cX0_choices 9 = .ok (.ireturn, 1) := by decide +kernel
def F_X0_choices (h : PH) : Option (Int32 × PH) :=
  some ((1 : Int32) + (h.1 14 1), h)
set_option maxRecDepth 20000 in
set_option maxHeartbeats 4000000 in
theorem M_X0_choices (E : EV) {r : Int32} {h h2 : PH} (hyp : F_X0_choices  h = some (r, h2)) : MI E 103 yX0_choices cX0_choices 1 (some .int) 0 0 [.ref 21] h r h2 := by
  refine MI.of 0 (by decide) rfl (fun X e1 C => ?_)
  subst e1
  replace C : CX X 103 cX0_choices 1 RX0 (some .int) 0 0 := C
  show V X _ h 0 [some (.ref 21)] []
  unfold F_X0_choices at hyp
  refine V_iconst (pc := 0) C dX0_choices_0 (v := 1) (by decide) ?_
  refine V_aload_n (pc := 1) C dX0_choices_1 rfl ?_
  refine V_getR (pc := 2) C dX0_choices_2 lf_X0_47 fk_21_0 ?_
  refine V_getI (pc := 5) C dX0_choices_5 lf_X0_62 fk_14_1 ?_
  refine V_iadd (pc := 8) C dX0_choices_8 ?_
  cases hyp
  exact V_iret C dX0_choices_9
theorem dX0_rowLength_0 : decode cX0_rowLength 0 = .ok (.iload_n 1, 1) := by decide +kernel
theorem dX0_rowLength_1 : decode cX0_rowLength 1 = .ok (.ifCond .lt 20, 3) := by decide +kernel
theorem dX0_rowLength_4 : decode cX0_rowLength 4 = .ok (.iload_n 1, 1) := by decide +kernel
theorem dX0_rowLength_5 : decode cX0_rowLength 5 = .ok (.aload_n 0, 1) := by decide +kernel
theorem dX0_rowLength_6 : decode cX0_rowLength 6 = .ok (.getfield 58, 3) := by decide +kernel
theorem dX0_rowLength_9 : decode cX0_rowLength 9 = .ok (.if_icmp .ge 12, 3) := by decide +kernel
theorem dX0_rowLength_12 : decode cX0_rowLength 12 = .ok (.aload_n 0, 1) := by decide +kernel
theorem dX0_rowLength_13 : decode cX0_rowLength 13 = .ok (.getfield 32, 3) := by decide +kernel
theorem dX0_rowLength_16 : decode cX0_rowLength 16 = .ok (.iload_n 1, 1) := by decide +kernel
theorem dX0_rowLength_17 : decode cX0_rowLength 17 = .ok (.iaload, 1) := by decide +kernel
theorem dX0_rowLength_18 : decode cX0_rowLength 18 = .ok (.goto 4, 3) := by decide +kernel
theorem dX0_rowLength_21 : decode cX0_rowLength 21 = .ok (.iconst (-1), 1) := by decide +kernel
theorem dX0_rowLength_22 : decode cX0_rowLength 22 = .ok (.ireturn, 1) := by decide +kernel
def F_X0_rowLength_b21 (h : PH) : Option (Int32 × PH) :=
  some ((-1 : Int32), h)
set_option maxRecDepth 20000 in
set_option maxHeartbeats 4000000 in
theorem T_X0_rowLength_b21 {X : CT} (C : CX X 103 cX0_rowLength 2 RX0 (some .int) 0 0) {r0 : Int32} {h0 : PH} : ∀ (h : PH), F_X0_rowLength_b21  h = some (r0, h0) → V X (QI X r0 h0) h 21 [none, none] [] := by
  intro  h hyp
  unfold F_X0_rowLength_b21 at hyp
  refine V_iconst (pc := 21) C dX0_rowLength_21 (v := -1) (by decide) ?_
  cases hyp
  exact V_iret C dX0_rowLength_22
def F_X0_rowLength (a1 : Int32) (h : PH) : Option (Int32 × PH) :=
  if a1 < 0 then
    F_X0_rowLength_b21  h
  else
    if (h.1 21 13) ≤ a1 then
      F_X0_rowLength_b21  h
    else
      if inb a1 3072 = true then
      some (h.1 34 a1.toNatClampNeg, h)
      else none
set_option maxRecDepth 20000 in
set_option maxHeartbeats 4000000 in
theorem M_X0_rowLength (E : EV) {a1 : Int32} {r : Int32} {h h2 : PH} (hyp : F_X0_rowLength a1 h = some (r, h2)) : MI E 103 yX0_rowLength cX0_rowLength 2 (some .int) 0 0 [.ref 21, .int a1] h r h2 := by
  refine MI.of 0 (by decide) rfl (fun X e1 C => ?_)
  subst e1
  replace C : CX X 103 cX0_rowLength 2 RX0 (some .int) 0 0 := C
  show V X _ h 0 [some (.ref 21), some (.int a1)] []
  unfold F_X0_rowLength at hyp
  refine V_iload_n (pc := 0) C dX0_rowLength_0 rfl ?_
  refine V_if_lt (pc := 1) C dX0_rowLength_1 (tgt := 21) (by decide) (fun q1 => ?_) (fun q1 => ?_)
  · replace hyp := (if_pos q1).symm.trans hyp
    refine V_weak (lv' := [none, none]) (lvle_n (lvle_n lvle_0)) ?_
    exact (T_X0_rowLength_b21 C) h hyp
  · replace hyp := (if_neg q1).symm.trans hyp
    refine V_iload_n (pc := 4) C dX0_rowLength_4 rfl ?_
    refine V_aload_n (pc := 5) C dX0_rowLength_5 rfl ?_
    refine V_getI (pc := 6) C dX0_rowLength_6 lf_X0_58 fk_21_13 ?_
    refine V_icmp_ge (pc := 9) C dX0_rowLength_9 (tgt := 21) (by decide) (fun q2 => ?_) (fun q2 => ?_)
    · replace hyp := (if_pos q2).symm.trans hyp
      refine V_weak (lv' := [none, none]) (lvle_n (lvle_n lvle_0)) ?_
      exact (T_X0_rowLength_b21 C) h hyp
    · replace hyp := (if_neg q2).symm.trans hyp
      refine V_aload_n (pc := 12) C dX0_rowLength_12 rfl ?_
      refine V_getR (pc := 13) C dX0_rowLength_13 lf_X0_32 fk_21_7 ?_
      refine V_iload_n (pc := 16) C dX0_rowLength_16 rfl ?_
      obtain ⟨g3, hyp⟩ := gd_n hyp
      refine V_iald (pc := 17) C dX0_rowLength_17 ak_34 g3 ?_
      refine V_goto (pc := 18) C dX0_rowLength_18 (tgt := 22) (by decide) ?_
      cases hyp
      exact V_iret C dX0_rowLength_22
theorem dX0_rowButton_0 : decode cX0_rowButton 0 = .ok (.iload_n 2, 1) := by decide +kernel
theorem dX0_rowButton_1 : decode cX0_rowButton 1 = .ok (.ifCond .lt 12, 3) := by decide +kernel
theorem dX0_rowButton_4 : decode cX0_rowButton 4 = .ok (.iload_n 2, 1) := by decide +kernel
theorem dX0_rowButton_5 : decode cX0_rowButton 5 = .ok (.aload_n 0, 1) := by decide +kernel
theorem dX0_rowButton_6 : decode cX0_rowButton 6 = .ok (.iload_n 1, 1) := by decide +kernel
theorem dX0_rowButton_7 : decode cX0_rowButton 7 = .ok (.invokevirtual 90, 3) := by decide +kernel
theorem dX0_rowButton_10 : decode cX0_rowButton 10 = .ok (.if_icmp .lt 5, 3) := by decide +kernel
theorem dX0_rowButton_13 : decode cX0_rowButton 13 = .ok (.iconst (-1), 1) := by decide +kernel
theorem dX0_rowButton_14 : decode cX0_rowButton 14 = .ok (.ireturn, 1) := by decide +kernel
theorem dX0_rowButton_15 : decode cX0_rowButton 15 = .ok (.iload_n 1, 1) := by decide +kernel
theorem dX0_rowButton_16 : decode cX0_rowButton 16 = .ok (.istore_n 3, 1) := by decide +kernel
theorem dX0_rowButton_17 : decode cX0_rowButton 17 = .ok (.aload_n 0, 1) := by decide +kernel
theorem dX0_rowButton_18 : decode cX0_rowButton 18 = .ok (.getfield 32, 3) := by decide +kernel
theorem dX0_rowButton_21 : decode cX0_rowButton 21 = .ok (.iload_n 1, 1) := by decide +kernel
theorem dX0_rowButton_22 : decode cX0_rowButton 22 = .ok (.iaload, 1) := by decide +kernel
theorem dX0_rowButton_23 : decode cX0_rowButton 23 = .ok (.iconst 1, 1) := by decide +kernel
theorem dX0_rowButton_24 : decode cX0_rowButton 24 = .ok (.isub, 1) := by decide +kernel
theorem dX0_rowButton_25 : decode cX0_rowButton 25 = .ok (.istore 4, 2) := by decide +kernel
theorem dX0_rowButton_27 : decode cX0_rowButton 27 = .ok (.iload 4, 2) := by decide +kernel
theorem dX0_rowButton_29 : decode cX0_rowButton 29 = .ok (.iload_n 2, 1) := by decide +kernel
theorem dX0_rowButton_30 : decode cX0_rowButton 30 = .ok (.if_icmp .le 25, 3) := by decide +kernel
theorem dX0_rowButton_33 : decode cX0_rowButton 33 = .ok (.aload_n 0, 1) := by decide +kernel
theorem dX0_rowButton_34 : decode cX0_rowButton 34 = .ok (.getfield 26, 3) := by decide +kernel
theorem dX0_rowButton_37 : decode cX0_rowButton 37 = .ok (.iload_n 3, 1) := by decide +kernel
theorem dX0_rowButton_38 : decode cX0_rowButton 38 = .ok (.iaload, 1) := by decide +kernel
theorem dX0_rowButton_39 : decode cX0_rowButton 39 = .ok (.ifCond .lt 16, 3) := by decide +kernel
theorem dX0_rowButton_42 : decode cX0_rowButton 42 = .ok (.aload_n 0, 1) := by decide +kernel
theorem dX0_rowButton_43 : decode cX0_rowButton 43 = .ok (.getfield 26, 3) := by decide +kernel
theorem dX0_rowButton_46 : decode cX0_rowButton 46 = .ok (.iload_n 3, 1) := by decide +kernel
theorem dX0_rowButton_47 : decode cX0_rowButton 47 = .ok (.iaload, 1) := by decide +kernel
theorem dX0_rowButton_48 : decode cX0_rowButton 48 = .ok (.istore_n 3, 1) := by decide +kernel
theorem dX0_rowButton_49 : decode cX0_rowButton 49 = .ok (.iinc 4 (-1), 3) := by decide +kernel
theorem dX0_rowButton_52 : decode cX0_rowButton 52 = .ok (.goto (-25), 3) := by decide +kernel
theorem dX0_rowButton_55 : decode cX0_rowButton 55 = .ok (.aload_n 0, 1) := by decide +kernel
theorem dX0_rowButton_56 : decode cX0_rowButton 56 = .ok (.getfield 29, 3) := by decide +kernel
theorem dX0_rowButton_59 : decode cX0_rowButton 59 = .ok (.iload_n 3, 1) := by decide +kernel
theorem dX0_rowButton_60 : decode cX0_rowButton 60 = .ok (.iaload, 1) := by decide +kernel
theorem dX0_rowButton_61 : decode cX0_rowButton 61 = .ok (.ireturn, 1) := by decide +kernel
def F_X0_rowButton_b55 (N : Nat) (x3 : Int32) (h : PH) : Option (Int32 × PH) :=
  if inb x3 3072 = true then
  some (h.1 33 x3.toNatClampNeg, h)
  else none
set_option maxRecDepth 20000 in
set_option maxHeartbeats 4000000 in
theorem T_X0_rowButton_b55 {X : CT} (C : CX X 103 cX0_rowButton 5 RX0 (some .int) 1 21) {r0 : Int32} {h0 : PH} {N : Nat} : ∀ (x3 : Int32) (h : PH), F_X0_rowButton_b55 N x3 h = some (r0, h0) → V X (QI X r0 h0) h 55 [some (.ref 21), none, none, some (.int x3), none] [] := by
  intro x3 h hyp
  unfold F_X0_rowButton_b55 at hyp
  refine V_aload_n (pc := 55) C dX0_rowButton_55 rfl ?_
  refine V_getR (pc := 56) C dX0_rowButton_56 lf_X0_29 fk_21_6 ?_
  refine V_iload_n (pc := 59) C dX0_rowButton_59 rfl ?_
  obtain ⟨g1, hyp⟩ := gd_n hyp
  refine V_iald (pc := 60) C dX0_rowButton_60 ak_33 g1 ?_
  cases hyp
  exact V_iret C dX0_rowButton_61
def F_X0_rowButton_b27 (N : Nat) : Nat → Int32 → Int32 → Int32 → PH → Option (Int32 × PH)
  | 0, _, _, _, _ => none
  | n + 1, x2, x3, x4, h =>
    if x4 ≤ x2 then
      F_X0_rowButton_b55 N x3 h
    else
      if inb x3 3072 = true then
      if (h.1 32 x3.toNatClampNeg) < 0 then
        F_X0_rowButton_b55 N x3 h
      else
        if inb x3 3072 = true then
        ib (h.1 32 x3.toNatClampNeg) fun v5 =>
        ib (x4 + (-1 : Int32)) fun v6 =>
        F_X0_rowButton_b27 N n x2 v5 v6 h
        else none
      else none
set_option maxRecDepth 20000 in
set_option maxHeartbeats 4000000 in
theorem T_X0_rowButton_b27 {X : CT} (C : CX X 103 cX0_rowButton 5 RX0 (some .int) 1 21) {r0 : Int32} {h0 : PH} {N : Nat} : ∀ (n : Nat) (x2 : Int32) (x3 : Int32) (x4 : Int32) (h : PH), F_X0_rowButton_b27 N n x2 x3 x4 h = some (r0, h0) → V X (QI X r0 h0) h 27 [some (.ref 21), none, some (.int x2), some (.int x3), some (.int x4)] [] := by
  intro n
  induction n with
  | zero =>
    intro x2 x3 x4 h hyp
    cases hyp
  | succ n ih =>
    intro x2 x3 x4 h hyp
    unfold F_X0_rowButton_b27 at hyp
    refine V_iload (pc := 27) C dX0_rowButton_27 rfl ?_
    refine V_iload_n (pc := 29) C dX0_rowButton_29 rfl ?_
    refine V_icmp_le (pc := 30) C dX0_rowButton_30 (tgt := 55) (by decide) (fun q1 => ?_) (fun q1 => ?_)
    · replace hyp := (if_pos q1).symm.trans hyp
      refine V_weak (lv' := [some (.ref 21), none, none, some (.int x3), none]) (lvle_s (lvle_n (lvle_n (lvle_s (lvle_n lvle_0))))) ?_
      exact (T_X0_rowButton_b55 C) x3 h hyp
    · replace hyp := (if_neg q1).symm.trans hyp
      refine V_aload_n (pc := 33) C dX0_rowButton_33 rfl ?_
      refine V_getR (pc := 34) C dX0_rowButton_34 lf_X0_26 fk_21_5 ?_
      refine V_iload_n (pc := 37) C dX0_rowButton_37 rfl ?_
      obtain ⟨g2, hyp⟩ := gd_n hyp
      refine V_iald (pc := 38) C dX0_rowButton_38 ak_32 g2 ?_
      refine V_if_lt (pc := 39) C dX0_rowButton_39 (tgt := 55) (by decide) (fun q3 => ?_) (fun q3 => ?_)
      · replace hyp := (if_pos q3).symm.trans hyp
        refine V_weak (lv' := [some (.ref 21), none, none, some (.int x3), none]) (lvle_s (lvle_n (lvle_n (lvle_s (lvle_n lvle_0))))) ?_
        exact (T_X0_rowButton_b55 C) x3 h hyp
      · replace hyp := (if_neg q3).symm.trans hyp
        refine V_aload_n (pc := 42) C dX0_rowButton_42 rfl ?_
        refine V_getR (pc := 43) C dX0_rowButton_43 lf_X0_26 fk_21_5 ?_
        refine V_iload_n (pc := 46) C dX0_rowButton_46 rfl ?_
        obtain ⟨g4, hyp⟩ := gd_n hyp
        refine V_iald (pc := 47) C dX0_rowButton_47 ak_32 g4 ?_
        obtain ⟨v5, ev5, hyp⟩ := ib_n hyp
        refine V_topI ev5 ?_
        refine V_istore_n (pc := 48) C dX0_rowButton_48 (by decide) rfl ?_
        obtain ⟨v6, ev6, hyp⟩ := ib_n hyp
        refine V_iinc (pc := 49) C dX0_rowButton_49 (v := v6) rfl (by rw [ev6]; rfl) (by decide) rfl ?_
        refine V_goto (pc := 52) C dX0_rowButton_52 (tgt := 27) (by decide) ?_
        refine V_weak (lv' := [some (.ref 21), none, some (.int x2), some (.int v5), some (.int v6)]) (lvle_s (lvle_n (lvle_s (lvle_s (lvle_s lvle_0))))) ?_
        exact ih x2 v5 v6 h hyp
def F_X0_rowButton (N : Nat) (a1 : Int32) (a2 : Int32) (h : PH) : Option (Int32 × PH) :=
  if a2 < 0 then
    some ((-1 : Int32), h)
  else
    bI (F_X0_rowLength a1 h) fun r2 h3 =>
    if a2 < r2 then
      if inb a1 3072 = true then
      ib ((h3.1 34 a1.toNatClampNeg) - (1 : Int32)) fun v6 =>
      F_X0_rowButton_b27 N N a2 a1 v6 h3
      else none
    else
      some ((-1 : Int32), h3)
set_option maxRecDepth 20000 in
set_option maxHeartbeats 4000000 in
theorem M_X0_rowButton (E : EV) {N : Nat} {a1 : Int32} {a2 : Int32} {r : Int32} {h h2 : PH} (hyp : F_X0_rowButton N a1 a2 h = some (r, h2)) : MI E 103 yX0_rowButton cX0_rowButton 5 (some .int) 1 21 [.ref 21, .int a1, .int a2] h r h2 := by
  refine MI.of 2 (by decide) rfl (fun X e1 C => ?_)
  subst e1
  replace C : CX X 103 cX0_rowButton 5 RX0 (some .int) 1 21 := C
  show V X _ h 0 [some (.ref 21), some (.int a1), some (.int a2), none, none] []
  unfold F_X0_rowButton at hyp
  refine V_iload_n (pc := 0) C dX0_rowButton_0 rfl ?_
  refine V_if_lt (pc := 1) C dX0_rowButton_1 (tgt := 13) (by decide) (fun q1 => ?_) (fun q1 => ?_)
  · replace hyp := (if_pos q1).symm.trans hyp
    refine V_iconst (pc := 13) C dX0_rowButton_13 (v := -1) (by decide) ?_
    cases hyp
    exact V_iret C dX0_rowButton_14
  · replace hyp := (if_neg q1).symm.trans hyp
    refine V_iload_n (pc := 4) C dX0_rowButton_4 rfl ?_
    refine V_aload_n (pc := 5) C dX0_rowButton_5 rfl ?_
    refine V_iload_n (pc := 6) C dX0_rowButton_6 rfl ?_
    obtain ⟨r2, h3, eh3, hyp⟩ := bI_n hyp
    refine V_callI (pc := 7) C dX0_rowButton_7 lm_X0_90 mk_X0_rowLength ok_21 rfl (M_X0_rowLength _ eh3) rfl pd_X0_rowLength (by decide) (by decide) (by decide) (As := [.int a1]) (rest := [.int a2]) rfl (Nat.le_of_ble_eq_true rfl) ?_
    refine V_icmp_lt (pc := 10) C dX0_rowButton_10 (tgt := 15) (by decide) (fun q4 => ?_) (fun q4 => ?_)
    · replace hyp := (if_pos q4).symm.trans hyp
      refine V_iload_n (pc := 15) C dX0_rowButton_15 rfl ?_
      refine V_istore_n (pc := 16) C dX0_rowButton_16 (by decide) rfl ?_
      refine V_aload_n (pc := 17) C dX0_rowButton_17 rfl ?_
      refine V_getR (pc := 18) C dX0_rowButton_18 lf_X0_32 fk_21_7 ?_
      refine V_iload_n (pc := 21) C dX0_rowButton_21 rfl ?_
      obtain ⟨g5, hyp⟩ := gd_n hyp
      refine V_iald (pc := 22) C dX0_rowButton_22 ak_34 g5 ?_
      refine V_iconst (pc := 23) C dX0_rowButton_23 (v := 1) (by decide) ?_
      refine V_isub (pc := 24) C dX0_rowButton_24 ?_
      obtain ⟨v6, ev6, hyp⟩ := ib_n hyp
      refine V_topI ev6 ?_
      refine V_istore (pc := 25) C dX0_rowButton_25 (by decide) rfl ?_
      refine V_weak (lv' := [some (.ref 21), none, some (.int a2), some (.int a1), some (.int v6)]) (lvle_s (lvle_n (lvle_s (lvle_s (lvle_s lvle_0))))) ?_
      exact (T_X0_rowButton_b27 C) N a2 a1 v6 h3 hyp
    · replace hyp := (if_neg q4).symm.trans hyp
      refine V_iconst (pc := 13) C dX0_rowButton_13 (v := -1) (by decide) ?_
      cases hyp
      exact V_iret C dX0_rowButton_14
theorem dX0_breakerOf_0 : decode cX0_breakerOf 0 = .ok (.aload_n 0, 1) := by decide +kernel
theorem dX0_breakerOf_1 : decode cX0_breakerOf 1 = .ok (.invokevirtual 55, 3) := by decide +kernel
theorem dX0_breakerOf_4 : decode cX0_breakerOf 4 = .ok (.iload_n 1, 1) := by decide +kernel
theorem dX0_breakerOf_5 : decode cX0_breakerOf 5 = .ok (.ifCond .lt 9, 3) := by decide +kernel
theorem dX0_breakerOf_8 : decode cX0_breakerOf 8 = .ok (.iload_n 1, 1) := by decide +kernel
theorem dX0_breakerOf_9 : decode cX0_breakerOf 9 = .ok (.bipush 6, 2) := by decide +kernel
theorem dX0_breakerOf_11 : decode cX0_breakerOf 11 = .ok (.if_icmp .lt 5, 3) := by decide +kernel
theorem dX0_breakerOf_14 : decode cX0_breakerOf 14 = .ok (.iconst (-1), 1) := by decide +kernel
theorem dX0_breakerOf_15 : decode cX0_breakerOf 15 = .ok (.ireturn, 1) := by decide +kernel
theorem dX0_breakerOf_16 : decode cX0_breakerOf 16 = .ok (.aload_n 0, 1) := by decide +kernel
theorem dX0_breakerOf_17 : decode cX0_breakerOf 17 = .ok (.getfield 9, 3) := by decide +kernel
theorem dX0_breakerOf_20 : decode cX0_breakerOf 20 = .ok (.iload_n 1, 1) := by decide +kernel
theorem dX0_breakerOf_21 : decode cX0_breakerOf 21 = .ok (.iaload, 1) := by decide +kernel
theorem dX0_breakerOf_22 : decode cX0_breakerOf 22 = .ok (.bipush (-2), 2) := by decide +kernel
theorem dX0_breakerOf_24 : decode cX0_breakerOf 24 = .ok (.if_icmp .ne 60, 3) := by decide +kernel
theorem dX0_breakerOf_27 : decode cX0_breakerOf 27 = .ok (.aload_n 0, 1) := by decide +kernel
theorem dX0_breakerOf_28 : decode cX0_breakerOf 28 = .ok (.getfield 9, 3) := by decide +kernel
theorem dX0_breakerOf_31 : decode cX0_breakerOf 31 = .ok (.iload_n 1, 1) := by decide +kernel
theorem dX0_breakerOf_32 : decode cX0_breakerOf 32 = .ok (.iconst (-1), 1) := by decide +kernel
theorem dX0_breakerOf_33 : decode cX0_breakerOf 33 = .ok (.iastore, 1) := by decide +kernel
theorem dX0_breakerOf_34 : decode cX0_breakerOf 34 = .ok (.iconst 0, 1) := by decide +kernel
theorem dX0_breakerOf_35 : decode cX0_breakerOf 35 = .ok (.istore_n 2, 1) := by decide +kernel
theorem dX0_breakerOf_36 : decode cX0_breakerOf 36 = .ok (.iload_n 2, 1) := by decide +kernel
theorem dX0_breakerOf_37 : decode cX0_breakerOf 37 = .ok (.aload_n 0, 1) := by decide +kernel
theorem dX0_breakerOf_38 : decode cX0_breakerOf 38 = .ok (.getfield 58, 3) := by decide +kernel
theorem dX0_breakerOf_41 : decode cX0_breakerOf 41 = .ok (.if_icmp .ge 43, 3) := by decide +kernel
theorem dX0_breakerOf_44 : decode cX0_breakerOf 44 = .ok (.aload_n 0, 1) := by decide +kernel
theorem dX0_breakerOf_45 : decode cX0_breakerOf 45 = .ok (.getfield 9, 3) := by decide +kernel
theorem dX0_breakerOf_48 : decode cX0_breakerOf 48 = .ok (.iload_n 1, 1) := by decide +kernel
theorem dX0_breakerOf_49 : decode cX0_breakerOf 49 = .ok (.iaload, 1) := by decide +kernel
theorem dX0_breakerOf_50 : decode cX0_breakerOf 50 = .ok (.iconst (-1), 1) := by decide +kernel
theorem dX0_breakerOf_51 : decode cX0_breakerOf 51 = .ok (.if_icmp .ne 33, 3) := by decide +kernel
theorem dX0_breakerOf_54 : decode cX0_breakerOf 54 = .ok (.aload_n 0, 1) := by decide +kernel
theorem dX0_breakerOf_55 : decode cX0_breakerOf 55 = .ok (.getfield 47, 3) := by decide +kernel
theorem dX0_breakerOf_58 : decode cX0_breakerOf 58 = .ok (.aload_n 0, 1) := by decide +kernel
theorem dX0_breakerOf_59 : decode cX0_breakerOf 59 = .ok (.getfield 20, 3) := by decide +kernel
theorem dX0_breakerOf_62 : decode cX0_breakerOf 62 = .ok (.iload_n 2, 1) := by decide +kernel
theorem dX0_breakerOf_63 : decode cX0_breakerOf 63 = .ok (.iaload, 1) := by decide +kernel
theorem dX0_breakerOf_64 : decode cX0_breakerOf 64 = .ok (.iload_n 1, 1) := by decide +kernel
theorem dX0_breakerOf_65 : decode cX0_breakerOf 65 = .ok (.invokevirtual 93, 3) := by decide +kernel
theorem dX0_breakerOf_68 : decode cX0_breakerOf 68 = .ok (.ifCond .eq 10, 3) := by decide +kernel
theorem dX0_breakerOf_71 : decode cX0_breakerOf 71 = .ok (.aload_n 0, 1) := by decide +kernel
theorem dX0_breakerOf_72 : decode cX0_breakerOf 72 = .ok (.getfield 9, 3) := by decide +kernel
theorem dX0_breakerOf_75 : decode cX0_breakerOf 75 = .ok (.iload_n 1, 1) := by decide +kernel
theorem dX0_breakerOf_76 : decode cX0_breakerOf 76 = .ok (.iload_n 2, 1) := by decide +kernel
theorem dX0_breakerOf_77 : decode cX0_breakerOf 77 = .ok (.iastore, 1) := by decide +kernel
theorem dX0_breakerOf_78 : decode cX0_breakerOf 78 = .ok (.iinc 2 1, 3) := by decide +kernel
theorem dX0_breakerOf_81 : decode cX0_breakerOf 81 = .ok (.goto (-45), 3) := by decide +kernel
theorem dX0_breakerOf_84 : decode cX0_breakerOf 84 = .ok (.aload_n 0, 1) := by decide +kernel
theorem dX0_breakerOf_85 : decode cX0_breakerOf 85 = .ok (.getfield 9, 3) := by decide +kernel
theorem dX0_breakerOf_88 : decode cX0_breakerOf 88 = .ok (.iload_n 1, 1) := by decide +kernel
theorem dX0_breakerOf_89 : decode cX0_breakerOf 89 = .ok (.iaload, 1) := by decide +kernel
theorem dX0_breakerOf_90 : decode cX0_breakerOf 90 = .ok (.ireturn, 1) := by decide +kernel
def F_X0_breakerOf_b78 (N : Nat) (rc36 : Int32 → Int32 → PH → Option (Int32 × PH)) (x1 : Int32) (x2 : Int32) (h : PH) : Option (Int32 × PH) :=
  ib (x2 + (1 : Int32)) fun v1 =>
  rc36 x1 v1 h
set_option maxRecDepth 20000 in
set_option maxHeartbeats 4000000 in
theorem T_X0_breakerOf_b78 {X : CT} (C : CX X 103 cX0_breakerOf 3 RX0 (some .int) 5 120) {r0 : Int32} {h0 : PH} {N : Nat} {rc36 : Int32 → Int32 → PH → Option (Int32 × PH)} (hr36 : ∀ (x1 : Int32) (x2 : Int32) (h : PH), rc36 x1 x2 h = some (r0, h0) → V X (QI X r0 h0) h 36 [some (.ref 21), some (.int x1), some (.int x2)] []) : ∀ (x1 : Int32) (x2 : Int32) (h : PH), F_X0_breakerOf_b78 N rc36 x1 x2 h = some (r0, h0) → V X (QI X r0 h0) h 78 [some (.ref 21), some (.int x1), some (.int x2)] [] := by
  intro x1 x2 h hyp
  unfold F_X0_breakerOf_b78 at hyp
  obtain ⟨v1, ev1, hyp⟩ := ib_n hyp
  refine V_iinc (pc := 78) C dX0_breakerOf_78 (v := v1) rfl (by rw [ev1]; rfl) (by decide) rfl ?_
  refine V_goto (pc := 81) C dX0_breakerOf_81 (tgt := 36) (by decide) ?_
  refine V_weak (lv' := [some (.ref 21), some (.int x1), some (.int v1)]) (lvle_s (lvle_s (lvle_s lvle_0))) ?_
  exact hr36 x1 v1 h hyp
def F_X0_breakerOf_b84 (N : Nat) (x1 : Int32) (h : PH) : Option (Int32 × PH) :=
  if inb x1 6 = true then
  some (h.1 22 x1.toNatClampNeg, h)
  else none
set_option maxRecDepth 20000 in
set_option maxHeartbeats 4000000 in
theorem T_X0_breakerOf_b84 {X : CT} (C : CX X 103 cX0_breakerOf 3 RX0 (some .int) 5 120) {r0 : Int32} {h0 : PH} {N : Nat} : ∀ (x1 : Int32) (h : PH), F_X0_breakerOf_b84 N x1 h = some (r0, h0) → V X (QI X r0 h0) h 84 [some (.ref 21), some (.int x1), none] [] := by
  intro x1 h hyp
  unfold F_X0_breakerOf_b84 at hyp
  refine V_aload_n (pc := 84) C dX0_breakerOf_84 rfl ?_
  refine V_getR (pc := 85) C dX0_breakerOf_85 lf_X0_9 fk_21_1 ?_
  refine V_iload_n (pc := 88) C dX0_breakerOf_88 rfl ?_
  obtain ⟨g1, hyp⟩ := gd_n hyp
  refine V_iald (pc := 89) C dX0_breakerOf_89 ak_22 g1 ?_
  cases hyp
  exact V_iret C dX0_breakerOf_90
def F_X0_breakerOf_b36 (N : Nat) : Nat → Int32 → Int32 → PH → Option (Int32 × PH)
  | 0, _, _, _ => none
  | n + 1, x1, x2, h =>
    if (h.1 21 13) ≤ x2 then
      F_X0_breakerOf_b84 N x1 h
    else
      if inb x1 6 = true then
      if (h.1 22 x1.toNatClampNeg) = (-1 : Int32) then
        if inb x2 3072 = true then
        bI (F_X4_breaksNever N (h.1 30 x2.toNatClampNeg) x1 h) fun r5 h6 =>
        if r5 = 0 then
          F_X0_breakerOf_b78 N (F_X0_breakerOf_b36 N n) x1 x2 h6
        else
          if inb x1 6 = true then
          hb (hs h6 22 x1.toNatClampNeg x2) fun h9 =>
          F_X0_breakerOf_b78 N (F_X0_breakerOf_b36 N n) x1 x2 h9
          else none
        else none
      else
        F_X0_breakerOf_b84 N x1 h
      else none
set_option maxRecDepth 20000 in
set_option maxHeartbeats 4000000 in
theorem T_X0_breakerOf_b36 {X : CT} (C : CX X 103 cX0_breakerOf 3 RX0 (some .int) 5 120) {r0 : Int32} {h0 : PH} {N : Nat} : ∀ (n : Nat) (x1 : Int32) (x2 : Int32) (h : PH), F_X0_breakerOf_b36 N n x1 x2 h = some (r0, h0) → V X (QI X r0 h0) h 36 [some (.ref 21), some (.int x1), some (.int x2)] [] := by
  intro n
  induction n with
  | zero =>
    intro x1 x2 h hyp
    cases hyp
  | succ n ih =>
    intro x1 x2 h hyp
    unfold F_X0_breakerOf_b36 at hyp
    refine V_iload_n (pc := 36) C dX0_breakerOf_36 rfl ?_
    refine V_aload_n (pc := 37) C dX0_breakerOf_37 rfl ?_
    refine V_getI (pc := 38) C dX0_breakerOf_38 lf_X0_58 fk_21_13 ?_
    refine V_icmp_ge (pc := 41) C dX0_breakerOf_41 (tgt := 84) (by decide) (fun q1 => ?_) (fun q1 => ?_)
    · replace hyp := (if_pos q1).symm.trans hyp
      refine V_weak (lv' := [some (.ref 21), some (.int x1), none]) (lvle_s (lvle_s (lvle_n lvle_0))) ?_
      exact (T_X0_breakerOf_b84 C) x1 h hyp
    · replace hyp := (if_neg q1).symm.trans hyp
      refine V_aload_n (pc := 44) C dX0_breakerOf_44 rfl ?_
      refine V_getR (pc := 45) C dX0_breakerOf_45 lf_X0_9 fk_21_1 ?_
      refine V_iload_n (pc := 48) C dX0_breakerOf_48 rfl ?_
      obtain ⟨g2, hyp⟩ := gd_n hyp
      refine V_iald (pc := 49) C dX0_breakerOf_49 ak_22 g2 ?_
      refine V_iconst (pc := 50) C dX0_breakerOf_50 (v := -1) (by decide) ?_
      refine V_icmp_ne (pc := 51) C dX0_breakerOf_51 (tgt := 84) (by decide) (fun q3 => ?_) (fun q3 => ?_)
      · replace hyp := (if_neg q3).symm.trans hyp
        refine V_weak (lv' := [some (.ref 21), some (.int x1), none]) (lvle_s (lvle_s (lvle_n lvle_0))) ?_
        exact (T_X0_breakerOf_b84 C) x1 h hyp
      · replace hyp := (if_pos q3).symm.trans hyp
        refine V_aload_n (pc := 54) C dX0_breakerOf_54 rfl ?_
        refine V_getR (pc := 55) C dX0_breakerOf_55 lf_X0_47 fk_21_0 ?_
        refine V_aload_n (pc := 58) C dX0_breakerOf_58 rfl ?_
        refine V_getR (pc := 59) C dX0_breakerOf_59 lf_X0_20 fk_21_3 ?_
        refine V_iload_n (pc := 62) C dX0_breakerOf_62 rfl ?_
        obtain ⟨g4, hyp⟩ := gd_n hyp
        refine V_iald (pc := 63) C dX0_breakerOf_63 ak_30 g4 ?_
        refine V_iload_n (pc := 64) C dX0_breakerOf_64 rfl ?_
        obtain ⟨r5, h6, eh6, hyp⟩ := bI_n hyp
        refine V_callI (pc := 65) C dX0_breakerOf_65 lm_X0_93 mk_X4_breaksNever ok_14 rfl (M_X4_breaksNever _ eh6) rfl pd_X4_breaksNever (by decide) (by decide) (by decide) (As := [.int (h.1 30 x2.toNatClampNeg), .int x1]) (rest := []) rfl (Nat.le_of_ble_eq_true rfl) ?_
        refine V_if_eq (pc := 68) C dX0_breakerOf_68 (tgt := 78) (by decide) (fun q7 => ?_) (fun q7 => ?_)
        · replace hyp := (if_pos q7).symm.trans hyp
          refine V_weak (lv' := [some (.ref 21), some (.int x1), some (.int x2)]) (lvle_s (lvle_s (lvle_s lvle_0))) ?_
          exact (T_X0_breakerOf_b78 C ih) x1 x2 h6 hyp
        · replace hyp := (if_neg q7).symm.trans hyp
          refine V_aload_n (pc := 71) C dX0_breakerOf_71 rfl ?_
          refine V_getR (pc := 72) C dX0_breakerOf_72 lf_X0_9 fk_21_1 ?_
          refine V_iload_n (pc := 75) C dX0_breakerOf_75 rfl ?_
          refine V_iload_n (pc := 76) C dX0_breakerOf_76 rfl ?_
          obtain ⟨g8, hyp⟩ := gd_n hyp
          obtain ⟨h9, eh9, hyp⟩ := hb_n hyp
          refine V_iast (pc := 77) C dX0_breakerOf_77 ak_22 g8 eh9 ?_
          refine V_weak (lv' := [some (.ref 21), some (.int x1), some (.int x2)]) (lvle_s (lvle_s (lvle_s lvle_0))) ?_
          exact (T_X0_breakerOf_b78 C ih) x1 x2 h9 hyp
def F_X0_breakerOf (N : Nat) (a1 : Int32) (h : PH) : Option (Int32 × PH) :=
  bV (F_X0_explore N  h) fun h2 =>
  if a1 < 0 then
    some ((-1 : Int32), h2)
  else
    if a1 < (6 : Int32) then
      if inb a1 6 = true then
      if (h2.1 22 a1.toNatClampNeg) = (-2 : Int32) then
        if inb a1 6 = true then
        hb (hs h2 22 a1.toNatClampNeg (-1 : Int32)) fun h8 =>
        F_X0_breakerOf_b36 N N a1 (0 : Int32) h8
        else none
      else
        F_X0_breakerOf_b84 N a1 h2
      else none
    else
      some ((-1 : Int32), h2)
set_option maxRecDepth 20000 in
set_option maxHeartbeats 4000000 in
theorem M_X0_breakerOf (E : EV) {N : Nat} {a1 : Int32} {r : Int32} {h h2 : PH} (hyp : F_X0_breakerOf N a1 h = some (r, h2)) : MI E 103 yX0_breakerOf cX0_breakerOf 3 (some .int) 5 120 [.ref 21, .int a1] h r h2 := by
  refine MI.of 1 (by decide) rfl (fun X e1 C => ?_)
  subst e1
  replace C : CX X 103 cX0_breakerOf 3 RX0 (some .int) 5 120 := C
  show V X _ h 0 [some (.ref 21), some (.int a1), none] []
  unfold F_X0_breakerOf at hyp
  refine V_aload_n (pc := 0) C dX0_breakerOf_0 rfl ?_
  obtain ⟨h2, eh2, hyp⟩ := bV_n hyp
  refine V_callV (pc := 1) C dX0_breakerOf_1 lm_X0_55 mk_X0_explore ok_21 rfl (M_X0_explore _ eh2) rfl pd_X0_explore (by decide) (by decide) (by decide) (As := []) (rest := []) rfl (Nat.le_of_ble_eq_true rfl) ?_
  refine V_iload_n (pc := 4) C dX0_breakerOf_4 rfl ?_
  refine V_if_lt (pc := 5) C dX0_breakerOf_5 (tgt := 14) (by decide) (fun q3 => ?_) (fun q3 => ?_)
  · replace hyp := (if_pos q3).symm.trans hyp
    refine V_iconst (pc := 14) C dX0_breakerOf_14 (v := -1) (by decide) ?_
    cases hyp
    exact V_iret C dX0_breakerOf_15
  · replace hyp := (if_neg q3).symm.trans hyp
    refine V_iload_n (pc := 8) C dX0_breakerOf_8 rfl ?_
    refine V_bipush (pc := 9) C dX0_breakerOf_9 (v := 6) (by decide) ?_
    refine V_icmp_lt (pc := 11) C dX0_breakerOf_11 (tgt := 16) (by decide) (fun q4 => ?_) (fun q4 => ?_)
    · replace hyp := (if_pos q4).symm.trans hyp
      refine V_aload_n (pc := 16) C dX0_breakerOf_16 rfl ?_
      refine V_getR (pc := 17) C dX0_breakerOf_17 lf_X0_9 fk_21_1 ?_
      refine V_iload_n (pc := 20) C dX0_breakerOf_20 rfl ?_
      obtain ⟨g5, hyp⟩ := gd_n hyp
      refine V_iald (pc := 21) C dX0_breakerOf_21 ak_22 g5 ?_
      refine V_bipush (pc := 22) C dX0_breakerOf_22 (v := -2) (by decide) ?_
      refine V_icmp_ne (pc := 24) C dX0_breakerOf_24 (tgt := 84) (by decide) (fun q6 => ?_) (fun q6 => ?_)
      · replace hyp := (if_neg q6).symm.trans hyp
        refine V_weak (lv' := [some (.ref 21), some (.int a1), none]) (lvle_s (lvle_s (lvle_n lvle_0))) ?_
        exact (T_X0_breakerOf_b84 C) a1 h2 hyp
      · replace hyp := (if_pos q6).symm.trans hyp
        refine V_aload_n (pc := 27) C dX0_breakerOf_27 rfl ?_
        refine V_getR (pc := 28) C dX0_breakerOf_28 lf_X0_9 fk_21_1 ?_
        refine V_iload_n (pc := 31) C dX0_breakerOf_31 rfl ?_
        refine V_iconst (pc := 32) C dX0_breakerOf_32 (v := -1) (by decide) ?_
        obtain ⟨g7, hyp⟩ := gd_n hyp
        obtain ⟨h8, eh8, hyp⟩ := hb_n hyp
        refine V_iast (pc := 33) C dX0_breakerOf_33 ak_22 g7 eh8 ?_
        refine V_iconst (pc := 34) C dX0_breakerOf_34 (v := 0) (by decide) ?_
        refine V_istore_n (pc := 35) C dX0_breakerOf_35 (by decide) rfl ?_
        refine V_weak (lv' := [some (.ref 21), some (.int a1), some (.int (0 : Int32))]) (lvle_s (lvle_s (lvle_s lvle_0))) ?_
        exact (T_X0_breakerOf_b36 C) N a1 (0 : Int32) h8 hyp
    · replace hyp := (if_neg q4).symm.trans hyp
      refine V_iconst (pc := 14) C dX0_breakerOf_14 (v := -1) (by decide) ?_
      cases hyp
      exact V_iret C dX0_breakerOf_15
theorem dX0_isOpenAt_0 : decode cX0_isOpenAt 0 = .ok (.aload_n 0, 1) := by decide +kernel
theorem dX0_isOpenAt_1 : decode cX0_isOpenAt 1 = .ok (.getfield 20, 3) := by decide +kernel
theorem dX0_isOpenAt_4 : decode cX0_isOpenAt 4 = .ok (.iload_n 1, 1) := by decide +kernel
theorem dX0_isOpenAt_5 : decode cX0_isOpenAt 5 = .ok (.iaload, 1) := by decide +kernel
theorem dX0_isOpenAt_6 : decode cX0_isOpenAt 6 = .ok (.invokestatic 113, 3) := by decide +kernel
theorem dX0_isOpenAt_9 : decode cX0_isOpenAt 9 = .ok (.iconst 1, 1) := by decide +kernel
theorem dX0_isOpenAt_10 : decode cX0_isOpenAt 10 = .ok (.if_icmp .ne 20, 3) := by decide +kernel
theorem dX0_isOpenAt_13 : decode cX0_isOpenAt 13 = .ok (.aload_n 0, 1) := by decide +kernel
theorem dX0_isOpenAt_14 : decode cX0_isOpenAt 14 = .ok (.getfield 20, 3) := by decide +kernel
theorem dX0_isOpenAt_17 : decode cX0_isOpenAt 17 = .ok (.iload_n 1, 1) := by decide +kernel
theorem dX0_isOpenAt_18 : decode cX0_isOpenAt 18 = .ok (.iaload, 1) := by decide +kernel
theorem dX0_isOpenAt_19 : decode cX0_isOpenAt 19 = .ok (.invokestatic 116, 3) := by decide +kernel
theorem dX0_isOpenAt_22 : decode cX0_isOpenAt 22 = .ok (.iload_n 2, 1) := by decide +kernel
theorem dX0_isOpenAt_23 : decode cX0_isOpenAt 23 = .ok (.if_icmp .ne 7, 3) := by decide +kernel
theorem dX0_isOpenAt_26 : decode cX0_isOpenAt 26 = .ok (.iconst 1, 1) := by decide +kernel
theorem dX0_isOpenAt_27 : decode cX0_isOpenAt 27 = .ok (.goto 4, 3) := by decide +kernel
theorem dX0_isOpenAt_30 : decode cX0_isOpenAt 30 = .ok (.iconst 0, 1) := by decide +kernel
theorem dX0_isOpenAt_31 : decode cX0_isOpenAt 31 = .ok (.ireturn, 1) := by decide +kernel
def F_X0_isOpenAt_b30 (h : PH) : Option (Int32 × PH) :=
  some ((0 : Int32), h)
set_option maxRecDepth 20000 in
set_option maxHeartbeats 4000000 in
theorem T_X0_isOpenAt_b30 {X : CT} (C : CX X 103 cX0_isOpenAt 3 RX0 (some .boolean) 1 20) {r0 : Int32} {h0 : PH} : ∀ (h : PH), F_X0_isOpenAt_b30  h = some (r0, h0) → V X (QI X r0 h0) h 30 [none, none, none] [] := by
  intro  h hyp
  unfold F_X0_isOpenAt_b30 at hyp
  refine V_iconst (pc := 30) C dX0_isOpenAt_30 (v := 0) (by decide) ?_
  cases hyp
  exact V_zret C dX0_isOpenAt_31 rfl
def F_X0_isOpenAt (a1 : Int32) (a2 : Int32) (h : PH) : Option (Int32 × PH) :=
  if inb a1 3072 = true then
  bI (F_X11_doorOf (h.1 30 a1.toNatClampNeg) h) fun r2 h3 =>
  if r2 = (1 : Int32) then
    if inb a1 3072 = true then
    bI (F_X11_floorOf (h3.1 30 a1.toNatClampNeg) h3) fun r6 h7 =>
    if r6 = a2 then
      some ((1 : Int32), h7)
    else
      F_X0_isOpenAt_b30  h7
    else none
  else
    F_X0_isOpenAt_b30  h3
  else none
set_option maxRecDepth 20000 in
set_option maxHeartbeats 4000000 in
theorem M_X0_isOpenAt (E : EV) {a1 : Int32} {a2 : Int32} {r : Int32} {h h2 : PH} (hyp : F_X0_isOpenAt a1 a2 h = some (r, h2)) : MI E 103 yX0_isOpenAt cX0_isOpenAt 3 (some .boolean) 1 20 [.ref 21, .int a1, .int a2] h r h2 := by
  refine MI.of 0 (by decide) rfl (fun X e1 C => ?_)
  subst e1
  replace C : CX X 103 cX0_isOpenAt 3 RX0 (some .boolean) 1 20 := C
  show V X _ h 0 [some (.ref 21), some (.int a1), some (.int a2)] []
  unfold F_X0_isOpenAt at hyp
  refine V_aload_n (pc := 0) C dX0_isOpenAt_0 rfl ?_
  refine V_getR (pc := 1) C dX0_isOpenAt_1 lf_X0_20 fk_21_3 ?_
  refine V_iload_n (pc := 4) C dX0_isOpenAt_4 rfl ?_
  obtain ⟨g1, hyp⟩ := gd_n hyp
  refine V_iald (pc := 5) C dX0_isOpenAt_5 ak_30 g1 ?_
  obtain ⟨r2, h3, eh3, hyp⟩ := bI_n hyp
  refine V_nstI (pc := 6) C dX0_isOpenAt_6 ln_X0_113 ms_X11_doorOf (M_X11_doorOf _ eh3) rfl pd_X11_doorOf (by decide) (by decide) (by decide) (As := [.int (h.1 30 a1.toNatClampNeg)]) (rest := []) rfl (Nat.le_of_ble_eq_true rfl) ?_
  refine V_iconst (pc := 9) C dX0_isOpenAt_9 (v := 1) (by decide) ?_
  refine V_icmp_ne (pc := 10) C dX0_isOpenAt_10 (tgt := 30) (by decide) (fun q4 => ?_) (fun q4 => ?_)
  · replace hyp := (if_neg q4).symm.trans hyp
    refine V_weak (lv' := [none, none, none]) (lvle_n (lvle_n (lvle_n lvle_0))) ?_
    exact (T_X0_isOpenAt_b30 C) h3 hyp
  · replace hyp := (if_pos q4).symm.trans hyp
    refine V_aload_n (pc := 13) C dX0_isOpenAt_13 rfl ?_
    refine V_getR (pc := 14) C dX0_isOpenAt_14 lf_X0_20 fk_21_3 ?_
    refine V_iload_n (pc := 17) C dX0_isOpenAt_17 rfl ?_
    obtain ⟨g5, hyp⟩ := gd_n hyp
    refine V_iald (pc := 18) C dX0_isOpenAt_18 ak_30 g5 ?_
    obtain ⟨r6, h7, eh7, hyp⟩ := bI_n hyp
    refine V_nstI (pc := 19) C dX0_isOpenAt_19 ln_X0_116 ms_X11_floorOf (M_X11_floorOf _ eh7) rfl pd_X11_floorOf (by decide) (by decide) (by decide) (As := [.int (h3.1 30 a1.toNatClampNeg)]) (rest := []) rfl (Nat.le_of_ble_eq_true rfl) ?_
    refine V_iload_n (pc := 22) C dX0_isOpenAt_22 rfl ?_
    refine V_icmp_ne (pc := 23) C dX0_isOpenAt_23 (tgt := 30) (by decide) (fun q8 => ?_) (fun q8 => ?_)
    · replace hyp := (if_neg q8).symm.trans hyp
      refine V_weak (lv' := [none, none, none]) (lvle_n (lvle_n (lvle_n lvle_0))) ?_
      exact (T_X0_isOpenAt_b30 C) h7 hyp
    · replace hyp := (if_pos q8).symm.trans hyp
      refine V_iconst (pc := 26) C dX0_isOpenAt_26 (v := 1) (by decide) ?_
      refine V_goto (pc := 27) C dX0_isOpenAt_27 (tgt := 31) (by decide) ?_
      cases hyp
      exact V_zret C dX0_isOpenAt_31 rfl
theorem dX0_ticksUntilOpen_0 : decode cX0_ticksUntilOpen 0 = .ok (.iconst 0, 1) := by decide +kernel
theorem dX0_ticksUntilOpen_1 : decode cX0_ticksUntilOpen 1 = .ok (.istore_n 3, 1) := by decide +kernel
theorem dX0_ticksUntilOpen_2 : decode cX0_ticksUntilOpen 2 = .ok (.iload_n 1, 1) := by decide +kernel
theorem dX0_ticksUntilOpen_3 : decode cX0_ticksUntilOpen 3 = .ok (.istore 4, 2) := by decide +kernel
theorem dX0_ticksUntilOpen_5 : decode cX0_ticksUntilOpen 5 = .ok (.iload_n 3, 1) := by decide +kernel
theorem dX0_ticksUntilOpen_6 : decode cX0_ticksUntilOpen 6 = .ok (.aload_n 0, 1) := by decide +kernel
theorem dX0_ticksUntilOpen_7 : decode cX0_ticksUntilOpen 7 = .ok (.getfield 58, 3) := by decide +kernel
theorem dX0_ticksUntilOpen_10 : decode cX0_ticksUntilOpen 10 = .ok (.if_icmp .ge 58, 3) := by decide +kernel
theorem dX0_ticksUntilOpen_13 : decode cX0_ticksUntilOpen 13 = .ok (.aload_n 0, 1) := by decide +kernel
theorem dX0_ticksUntilOpen_14 : decode cX0_ticksUntilOpen 14 = .ok (.getfield 41, 3) := by decide +kernel
theorem dX0_ticksUntilOpen_17 : decode cX0_ticksUntilOpen 17 = .ok (.iload 4, 2) := by decide +kernel
theorem dX0_ticksUntilOpen_19 : decode cX0_ticksUntilOpen 19 = .ok (.iaload, 1) := by decide +kernel
theorem dX0_ticksUntilOpen_20 : decode cX0_ticksUntilOpen 20 = .ok (.bipush (-2), 2) := by decide +kernel
theorem dX0_ticksUntilOpen_22 : decode cX0_ticksUntilOpen 22 = .ok (.if_icmp .ne 46, 3) := by decide +kernel
theorem dX0_ticksUntilOpen_25 : decode cX0_ticksUntilOpen 25 = .ok (.aload_n 0, 1) := by decide +kernel
theorem dX0_ticksUntilOpen_26 : decode cX0_ticksUntilOpen 26 = .ok (.iload 4, 2) := by decide +kernel
theorem dX0_ticksUntilOpen_28 : decode cX0_ticksUntilOpen 28 = .ok (.iload_n 2, 1) := by decide +kernel
theorem dX0_ticksUntilOpen_29 : decode cX0_ticksUntilOpen 29 = .ok (.invokevirtual 107, 3) := by decide +kernel
theorem dX0_ticksUntilOpen_32 : decode cX0_ticksUntilOpen 32 = .ok (.ifCond .ne 36, 3) := by decide +kernel
theorem dX0_ticksUntilOpen_35 : decode cX0_ticksUntilOpen 35 = .ok (.aload_n 0, 1) := by decide +kernel
theorem dX0_ticksUntilOpen_36 : decode cX0_ticksUntilOpen 36 = .ok (.getfield 41, 3) := by decide +kernel
theorem dX0_ticksUntilOpen_39 : decode cX0_ticksUntilOpen 39 = .ok (.iload 4, 2) := by decide +kernel
theorem dX0_ticksUntilOpen_41 : decode cX0_ticksUntilOpen 41 = .ok (.sipush 1000, 3) := by decide +kernel
theorem dX0_ticksUntilOpen_44 : decode cX0_ticksUntilOpen 44 = .ok (.iastore, 1) := by decide +kernel
theorem dX0_ticksUntilOpen_45 : decode cX0_ticksUntilOpen 45 = .ok (.aload_n 0, 1) := by decide +kernel
theorem dX0_ticksUntilOpen_46 : decode cX0_ticksUntilOpen 46 = .ok (.getfield 44, 3) := by decide +kernel
theorem dX0_ticksUntilOpen_49 : decode cX0_ticksUntilOpen 49 = .ok (.iload_n 3, 1) := by decide +kernel
theorem dX0_ticksUntilOpen_50 : decode cX0_ticksUntilOpen 50 = .ok (.iload 4, 2) := by decide +kernel
theorem dX0_ticksUntilOpen_52 : decode cX0_ticksUntilOpen 52 = .ok (.iastore, 1) := by decide +kernel
theorem dX0_ticksUntilOpen_53 : decode cX0_ticksUntilOpen 53 = .ok (.aload_n 0, 1) := by decide +kernel
theorem dX0_ticksUntilOpen_54 : decode cX0_ticksUntilOpen 54 = .ok (.iload 4, 2) := by decide +kernel
theorem dX0_ticksUntilOpen_56 : decode cX0_ticksUntilOpen 56 = .ok (.iconst 0, 1) := by decide +kernel
theorem dX0_ticksUntilOpen_57 : decode cX0_ticksUntilOpen 57 = .ok (.invokevirtual 101, 3) := by decide +kernel
theorem dX0_ticksUntilOpen_60 : decode cX0_ticksUntilOpen 60 = .ok (.istore 4, 2) := by decide +kernel
theorem dX0_ticksUntilOpen_62 : decode cX0_ticksUntilOpen 62 = .ok (.iinc 3 1, 3) := by decide +kernel
theorem dX0_ticksUntilOpen_65 : decode cX0_ticksUntilOpen 65 = .ok (.goto (-60), 3) := by decide +kernel
theorem dX0_ticksUntilOpen_68 : decode cX0_ticksUntilOpen 68 = .ok (.aload_n 0, 1) := by decide +kernel
theorem dX0_ticksUntilOpen_69 : decode cX0_ticksUntilOpen 69 = .ok (.iload 4, 2) := by decide +kernel
theorem dX0_ticksUntilOpen_71 : decode cX0_ticksUntilOpen 71 = .ok (.iload_n 2, 1) := by decide +kernel
theorem dX0_ticksUntilOpen_72 : decode cX0_ticksUntilOpen 72 = .ok (.invokevirtual 107, 3) := by decide +kernel
theorem dX0_ticksUntilOpen_75 : decode cX0_ticksUntilOpen 75 = .ok (.ifCond .eq 11, 3) := by decide +kernel
theorem dX0_ticksUntilOpen_78 : decode cX0_ticksUntilOpen 78 = .ok (.aload_n 0, 1) := by decide +kernel
theorem dX0_ticksUntilOpen_79 : decode cX0_ticksUntilOpen 79 = .ok (.getfield 41, 3) := by decide +kernel
theorem dX0_ticksUntilOpen_82 : decode cX0_ticksUntilOpen 82 = .ok (.iload 4, 2) := by decide +kernel
theorem dX0_ticksUntilOpen_84 : decode cX0_ticksUntilOpen 84 = .ok (.iconst 0, 1) := by decide +kernel
theorem dX0_ticksUntilOpen_85 : decode cX0_ticksUntilOpen 85 = .ok (.iastore, 1) := by decide +kernel
theorem dX0_ticksUntilOpen_86 : decode cX0_ticksUntilOpen 86 = .ok (.aload_n 0, 1) := by decide +kernel
theorem dX0_ticksUntilOpen_87 : decode cX0_ticksUntilOpen 87 = .ok (.getfield 41, 3) := by decide +kernel
theorem dX0_ticksUntilOpen_90 : decode cX0_ticksUntilOpen 90 = .ok (.iload 4, 2) := by decide +kernel
theorem dX0_ticksUntilOpen_92 : decode cX0_ticksUntilOpen 92 = .ok (.iaload, 1) := by decide +kernel
theorem dX0_ticksUntilOpen_93 : decode cX0_ticksUntilOpen 93 = .ok (.istore 5, 2) := by decide +kernel
theorem dX0_ticksUntilOpen_95 : decode cX0_ticksUntilOpen 95 = .ok (.iload_n 3, 1) := by decide +kernel
theorem dX0_ticksUntilOpen_96 : decode cX0_ticksUntilOpen 96 = .ok (.iconst 1, 1) := by decide +kernel
theorem dX0_ticksUntilOpen_97 : decode cX0_ticksUntilOpen 97 = .ok (.isub, 1) := by decide +kernel
theorem dX0_ticksUntilOpen_98 : decode cX0_ticksUntilOpen 98 = .ok (.istore 6, 2) := by decide +kernel
theorem dX0_ticksUntilOpen_100 : decode cX0_ticksUntilOpen 100 = .ok (.iload 6, 2) := by decide +kernel
theorem dX0_ticksUntilOpen_102 : decode cX0_ticksUntilOpen 102 = .ok (.ifCond .lt 35, 3) := by decide +kernel
theorem dX0_ticksUntilOpen_105 : decode cX0_ticksUntilOpen 105 = .ok (.iload 5, 2) := by decide +kernel
theorem dX0_ticksUntilOpen_107 : decode cX0_ticksUntilOpen 107 = .ok (.iconst 1, 1) := by decide +kernel
theorem dX0_ticksUntilOpen_108 : decode cX0_ticksUntilOpen 108 = .ok (.iadd, 1) := by decide +kernel
theorem dX0_ticksUntilOpen_109 : decode cX0_ticksUntilOpen 109 = .ok (.sipush 1000, 3) := by decide +kernel
theorem dX0_ticksUntilOpen_112 : decode cX0_ticksUntilOpen 112 = .ok (.invokestatic 110, 3) := by decide +kernel
theorem dX0_ticksUntilOpen_115 : decode cX0_ticksUntilOpen 115 = .ok (.istore 5, 2) := by decide +kernel
theorem dX0_ticksUntilOpen_117 : decode cX0_ticksUntilOpen 117 = .ok (.aload_n 0, 1) := by decide +kernel
theorem dX0_ticksUntilOpen_118 : decode cX0_ticksUntilOpen 118 = .ok (.getfield 41, 3) := by decide +kernel
theorem dX0_ticksUntilOpen_121 : decode cX0_ticksUntilOpen 121 = .ok (.aload_n 0, 1) := by decide +kernel
theorem dX0_ticksUntilOpen_122 : decode cX0_ticksUntilOpen 122 = .ok (.getfield 44, 3) := by decide +kernel
theorem dX0_ticksUntilOpen_125 : decode cX0_ticksUntilOpen 125 = .ok (.iload 6, 2) := by decide +kernel
theorem dX0_ticksUntilOpen_127 : decode cX0_ticksUntilOpen 127 = .ok (.iaload, 1) := by decide +kernel
theorem dX0_ticksUntilOpen_128 : decode cX0_ticksUntilOpen 128 = .ok (.iload 5, 2) := by decide +kernel
theorem dX0_ticksUntilOpen_130 : decode cX0_ticksUntilOpen 130 = .ok (.iastore, 1) := by decide +kernel
theorem dX0_ticksUntilOpen_131 : decode cX0_ticksUntilOpen 131 = .ok (.iinc 6 (-1), 3) := by decide +kernel
theorem dX0_ticksUntilOpen_134 : decode cX0_ticksUntilOpen 134 = .ok (.goto (-34), 3) := by decide +kernel
theorem dX0_ticksUntilOpen_137 : decode cX0_ticksUntilOpen 137 = .ok (.iload 5, 2) := by decide +kernel
theorem dX0_ticksUntilOpen_139 : decode cX0_ticksUntilOpen 139 = .ok (.ireturn, 1) := by decide +kernel
def F_X0_ticksUntilOpen_b100 (N : Nat) : Nat → Int32 → Int32 → PH → Option (Int32 × PH)
  | 0, _, _, _ => none
  | n + 1, x5, x6, h =>
    if x6 < 0 then
      some (x5, h)
    else
      ib (imin (x5 + (1 : Int32)) (1000 : Int32)) fun v2 =>
      if inb x6 3072 = true then
      if inb (h.1 38 x6.toNatClampNeg) 3072 = true then
      hb (hs h 37 (h.1 38 x6.toNatClampNeg).toNatClampNeg v2) fun h5 =>
      ib (x6 + (-1 : Int32)) fun v6 =>
      F_X0_ticksUntilOpen_b100 N n v2 v6 h5
      else none
      else none
set_option maxRecDepth 20000 in
set_option maxHeartbeats 4000000 in
theorem T_X0_ticksUntilOpen_b100 {X : CT} (C : CX X 103 cX0_ticksUntilOpen 7 RX0 (some .int) 2 42) {r0 : Int32} {h0 : PH} {N : Nat} : ∀ (n : Nat) (x5 : Int32) (x6 : Int32) (h : PH), F_X0_ticksUntilOpen_b100 N n x5 x6 h = some (r0, h0) → V X (QI X r0 h0) h 100 [some (.ref 21), none, none, none, none, some (.int x5), some (.int x6)] [] := by
  intro n
  induction n with
  | zero =>
    intro x5 x6 h hyp
    cases hyp
  | succ n ih =>
    intro x5 x6 h hyp
    unfold F_X0_ticksUntilOpen_b100 at hyp
    refine V_iload (pc := 100) C dX0_ticksUntilOpen_100 rfl ?_
    refine V_if_lt (pc := 102) C dX0_ticksUntilOpen_102 (tgt := 137) (by decide) (fun q1 => ?_) (fun q1 => ?_)
    · replace hyp := (if_pos q1).symm.trans hyp
      refine V_iload (pc := 137) C dX0_ticksUntilOpen_137 rfl ?_
      cases hyp
      exact V_iret C dX0_ticksUntilOpen_139
    · replace hyp := (if_neg q1).symm.trans hyp
      refine V_iload (pc := 105) C dX0_ticksUntilOpen_105 rfl ?_
      refine V_iconst (pc := 107) C dX0_ticksUntilOpen_107 (v := 1) (by decide) ?_
      refine V_iadd (pc := 108) C dX0_ticksUntilOpen_108 ?_
      refine V_sipush (pc := 109) C dX0_ticksUntilOpen_109 (v := 1000) (by decide) ?_
      refine V_mmin (pc := 112) C dX0_ticksUntilOpen_112 lm_X0_110 (by decide) (Nat.le_of_ble_eq_true rfl) ?_
      obtain ⟨v2, ev2, hyp⟩ := ib_n hyp
      refine V_topI ev2 ?_
      refine V_istore (pc := 115) C dX0_ticksUntilOpen_115 (by decide) rfl ?_
      refine V_aload_n (pc := 117) C dX0_ticksUntilOpen_117 rfl ?_
      refine V_getR (pc := 118) C dX0_ticksUntilOpen_118 lf_X0_41 fk_21_10 ?_
      refine V_aload_n (pc := 121) C dX0_ticksUntilOpen_121 rfl ?_
      refine V_getR (pc := 122) C dX0_ticksUntilOpen_122 lf_X0_44 fk_21_11 ?_
      refine V_iload (pc := 125) C dX0_ticksUntilOpen_125 rfl ?_
      obtain ⟨g3, hyp⟩ := gd_n hyp
      refine V_iald (pc := 127) C dX0_ticksUntilOpen_127 ak_38 g3 ?_
      refine V_iload (pc := 128) C dX0_ticksUntilOpen_128 rfl ?_
      obtain ⟨g4, hyp⟩ := gd_n hyp
      obtain ⟨h5, eh5, hyp⟩ := hb_n hyp
      refine V_iast (pc := 130) C dX0_ticksUntilOpen_130 ak_37 g4 eh5 ?_
      obtain ⟨v6, ev6, hyp⟩ := ib_n hyp
      refine V_iinc (pc := 131) C dX0_ticksUntilOpen_131 (v := v6) rfl (by rw [ev6]; rfl) (by decide) rfl ?_
      refine V_goto (pc := 134) C dX0_ticksUntilOpen_134 (tgt := 100) (by decide) ?_
      refine V_weak (lv' := [some (.ref 21), none, none, none, none, some (.int v2), some (.int v6)]) (lvle_s (lvle_n (lvle_n (lvle_n (lvle_n (lvle_s (lvle_s lvle_0))))))) ?_
      exact ih v2 v6 h5 hyp
def F_X0_ticksUntilOpen_b86 (N : Nat) (x3 : Int32) (x4 : Int32) (h : PH) : Option (Int32 × PH) :=
  if inb x4 3072 = true then
  ib (h.1 37 x4.toNatClampNeg) fun v2 =>
  ib (x3 - (1 : Int32)) fun v3 =>
  F_X0_ticksUntilOpen_b100 N N v2 v3 h
  else none
set_option maxRecDepth 20000 in
set_option maxHeartbeats 4000000 in
theorem T_X0_ticksUntilOpen_b86 {X : CT} (C : CX X 103 cX0_ticksUntilOpen 7 RX0 (some .int) 2 42) {r0 : Int32} {h0 : PH} {N : Nat} : ∀ (x3 : Int32) (x4 : Int32) (h : PH), F_X0_ticksUntilOpen_b86 N x3 x4 h = some (r0, h0) → V X (QI X r0 h0) h 86 [some (.ref 21), none, none, some (.int x3), some (.int x4), none, none] [] := by
  intro x3 x4 h hyp
  unfold F_X0_ticksUntilOpen_b86 at hyp
  refine V_aload_n (pc := 86) C dX0_ticksUntilOpen_86 rfl ?_
  refine V_getR (pc := 87) C dX0_ticksUntilOpen_87 lf_X0_41 fk_21_10 ?_
  refine V_iload (pc := 90) C dX0_ticksUntilOpen_90 rfl ?_
  obtain ⟨g1, hyp⟩ := gd_n hyp
  refine V_iald (pc := 92) C dX0_ticksUntilOpen_92 ak_37 g1 ?_
  obtain ⟨v2, ev2, hyp⟩ := ib_n hyp
  refine V_topI ev2 ?_
  refine V_istore (pc := 93) C dX0_ticksUntilOpen_93 (by decide) rfl ?_
  refine V_iload_n (pc := 95) C dX0_ticksUntilOpen_95 rfl ?_
  refine V_iconst (pc := 96) C dX0_ticksUntilOpen_96 (v := 1) (by decide) ?_
  refine V_isub (pc := 97) C dX0_ticksUntilOpen_97 ?_
  obtain ⟨v3, ev3, hyp⟩ := ib_n hyp
  refine V_topI ev3 ?_
  refine V_istore (pc := 98) C dX0_ticksUntilOpen_98 (by decide) rfl ?_
  refine V_weak (lv' := [some (.ref 21), none, none, none, none, some (.int v2), some (.int v3)]) (lvle_s (lvle_n (lvle_n (lvle_n (lvle_n (lvle_s (lvle_s lvle_0))))))) ?_
  exact (T_X0_ticksUntilOpen_b100 C) N v2 v3 h hyp
def F_X0_ticksUntilOpen_b68 (N : Nat) (x2 : Int32) (x3 : Int32) (x4 : Int32) (h : PH) : Option (Int32 × PH) :=
  bI (F_X0_isOpenAt x4 x2 h) fun r1 h2 =>
  if r1 = 0 then
    F_X0_ticksUntilOpen_b86 N x3 x4 h2
  else
    if inb x4 3072 = true then
    hb (hs h2 37 x4.toNatClampNeg (0 : Int32)) fun h5 =>
    F_X0_ticksUntilOpen_b86 N x3 x4 h5
    else none
set_option maxRecDepth 20000 in
set_option maxHeartbeats 4000000 in
theorem T_X0_ticksUntilOpen_b68 {X : CT} (C : CX X 103 cX0_ticksUntilOpen 7 RX0 (some .int) 2 42) {r0 : Int32} {h0 : PH} {N : Nat} : ∀ (x2 : Int32) (x3 : Int32) (x4 : Int32) (h : PH), F_X0_ticksUntilOpen_b68 N x2 x3 x4 h = some (r0, h0) → V X (QI X r0 h0) h 68 [some (.ref 21), none, some (.int x2), some (.int x3), some (.int x4), none, none] [] := by
  intro x2 x3 x4 h hyp
  unfold F_X0_ticksUntilOpen_b68 at hyp
  refine V_aload_n (pc := 68) C dX0_ticksUntilOpen_68 rfl ?_
  refine V_iload (pc := 69) C dX0_ticksUntilOpen_69 rfl ?_
  refine V_iload_n (pc := 71) C dX0_ticksUntilOpen_71 rfl ?_
  obtain ⟨r1, h2, eh2, hyp⟩ := bI_n hyp
  refine V_callI (pc := 72) C dX0_ticksUntilOpen_72 lm_X0_107 mk_X0_isOpenAt ok_21 rfl (M_X0_isOpenAt _ eh2) rfl pd_X0_isOpenAt (by decide) (by decide) (by decide) (As := [.int x4, .int x2]) (rest := []) rfl (Nat.le_of_ble_eq_true rfl) ?_
  refine V_if_eq (pc := 75) C dX0_ticksUntilOpen_75 (tgt := 86) (by decide) (fun q3 => ?_) (fun q3 => ?_)
  · replace hyp := (if_pos q3).symm.trans hyp
    refine V_weak (lv' := [some (.ref 21), none, none, some (.int x3), some (.int x4), none, none]) (lvle_s (lvle_n (lvle_n (lvle_s (lvle_s (lvle_n (lvle_n lvle_0))))))) ?_
    exact (T_X0_ticksUntilOpen_b86 C) x3 x4 h2 hyp
  · replace hyp := (if_neg q3).symm.trans hyp
    refine V_aload_n (pc := 78) C dX0_ticksUntilOpen_78 rfl ?_
    refine V_getR (pc := 79) C dX0_ticksUntilOpen_79 lf_X0_41 fk_21_10 ?_
    refine V_iload (pc := 82) C dX0_ticksUntilOpen_82 rfl ?_
    refine V_iconst (pc := 84) C dX0_ticksUntilOpen_84 (v := 0) (by decide) ?_
    obtain ⟨g4, hyp⟩ := gd_n hyp
    obtain ⟨h5, eh5, hyp⟩ := hb_n hyp
    refine V_iast (pc := 85) C dX0_ticksUntilOpen_85 ak_37 g4 eh5 ?_
    refine V_weak (lv' := [some (.ref 21), none, none, some (.int x3), some (.int x4), none, none]) (lvle_s (lvle_n (lvle_n (lvle_s (lvle_s (lvle_n (lvle_n lvle_0))))))) ?_
    exact (T_X0_ticksUntilOpen_b86 C) x3 x4 h5 hyp
def F_X0_ticksUntilOpen_b5 (N : Nat) : Nat → Int32 → Int32 → Int32 → PH → Option (Int32 × PH)
  | 0, _, _, _, _ => none
  | n + 1, x2, x3, x4, h =>
    if (h.1 21 13) ≤ x3 then
      F_X0_ticksUntilOpen_b68 N x2 x3 x4 h
    else
      if inb x4 3072 = true then
      if (h.1 37 x4.toNatClampNeg) = (-2 : Int32) then
        bI (F_X0_isOpenAt x4 x2 h) fun r4 h5 =>
        if r4 = 0 then
          if inb x4 3072 = true then
          hb (hs h5 37 x4.toNatClampNeg (1000 : Int32)) fun h8 =>
          if inb x3 3072 = true then
          hb (hs h8 38 x3.toNatClampNeg x4) fun h10 =>
          bI (F_X0_behind x4 (0 : Int32) h10) fun r11 h12 =>
          ib (x3 + (1 : Int32)) fun v13 =>
          F_X0_ticksUntilOpen_b5 N n x2 v13 r11 h12
          else none
          else none
        else
          F_X0_ticksUntilOpen_b68 N x2 x3 x4 h5
      else
        F_X0_ticksUntilOpen_b68 N x2 x3 x4 h
      else none
set_option maxRecDepth 20000 in
set_option maxHeartbeats 4000000 in
theorem T_X0_ticksUntilOpen_b5 {X : CT} (C : CX X 103 cX0_ticksUntilOpen 7 RX0 (some .int) 2 42) {r0 : Int32} {h0 : PH} {N : Nat} : ∀ (n : Nat) (x2 : Int32) (x3 : Int32) (x4 : Int32) (h : PH), F_X0_ticksUntilOpen_b5 N n x2 x3 x4 h = some (r0, h0) → V X (QI X r0 h0) h 5 [some (.ref 21), none, some (.int x2), some (.int x3), some (.int x4), none, none] [] := by
  intro n
  induction n with
  | zero =>
    intro x2 x3 x4 h hyp
    cases hyp
  | succ n ih =>
    intro x2 x3 x4 h hyp
    unfold F_X0_ticksUntilOpen_b5 at hyp
    refine V_iload_n (pc := 5) C dX0_ticksUntilOpen_5 rfl ?_
    refine V_aload_n (pc := 6) C dX0_ticksUntilOpen_6 rfl ?_
    refine V_getI (pc := 7) C dX0_ticksUntilOpen_7 lf_X0_58 fk_21_13 ?_
    refine V_icmp_ge (pc := 10) C dX0_ticksUntilOpen_10 (tgt := 68) (by decide) (fun q1 => ?_) (fun q1 => ?_)
    · replace hyp := (if_pos q1).symm.trans hyp
      refine V_weak (lv' := [some (.ref 21), none, some (.int x2), some (.int x3), some (.int x4), none, none]) (lvle_s (lvle_n (lvle_s (lvle_s (lvle_s (lvle_n (lvle_n lvle_0))))))) ?_
      exact (T_X0_ticksUntilOpen_b68 C) x2 x3 x4 h hyp
    · replace hyp := (if_neg q1).symm.trans hyp
      refine V_aload_n (pc := 13) C dX0_ticksUntilOpen_13 rfl ?_
      refine V_getR (pc := 14) C dX0_ticksUntilOpen_14 lf_X0_41 fk_21_10 ?_
      refine V_iload (pc := 17) C dX0_ticksUntilOpen_17 rfl ?_
      obtain ⟨g2, hyp⟩ := gd_n hyp
      refine V_iald (pc := 19) C dX0_ticksUntilOpen_19 ak_37 g2 ?_
      refine V_bipush (pc := 20) C dX0_ticksUntilOpen_20 (v := -2) (by decide) ?_
      refine V_icmp_ne (pc := 22) C dX0_ticksUntilOpen_22 (tgt := 68) (by decide) (fun q3 => ?_) (fun q3 => ?_)
      · replace hyp := (if_neg q3).symm.trans hyp
        refine V_weak (lv' := [some (.ref 21), none, some (.int x2), some (.int x3), some (.int x4), none, none]) (lvle_s (lvle_n (lvle_s (lvle_s (lvle_s (lvle_n (lvle_n lvle_0))))))) ?_
        exact (T_X0_ticksUntilOpen_b68 C) x2 x3 x4 h hyp
      · replace hyp := (if_pos q3).symm.trans hyp
        refine V_aload_n (pc := 25) C dX0_ticksUntilOpen_25 rfl ?_
        refine V_iload (pc := 26) C dX0_ticksUntilOpen_26 rfl ?_
        refine V_iload_n (pc := 28) C dX0_ticksUntilOpen_28 rfl ?_
        obtain ⟨r4, h5, eh5, hyp⟩ := bI_n hyp
        refine V_callI (pc := 29) C dX0_ticksUntilOpen_29 lm_X0_107 mk_X0_isOpenAt ok_21 rfl (M_X0_isOpenAt _ eh5) rfl pd_X0_isOpenAt (by decide) (by decide) (by decide) (As := [.int x4, .int x2]) (rest := []) rfl (Nat.le_of_ble_eq_true rfl) ?_
        refine V_if_ne (pc := 32) C dX0_ticksUntilOpen_32 (tgt := 68) (by decide) (fun q6 => ?_) (fun q6 => ?_)
        · replace hyp := (if_neg q6).symm.trans hyp
          refine V_weak (lv' := [some (.ref 21), none, some (.int x2), some (.int x3), some (.int x4), none, none]) (lvle_s (lvle_n (lvle_s (lvle_s (lvle_s (lvle_n (lvle_n lvle_0))))))) ?_
          exact (T_X0_ticksUntilOpen_b68 C) x2 x3 x4 h5 hyp
        · replace hyp := (if_pos q6).symm.trans hyp
          refine V_aload_n (pc := 35) C dX0_ticksUntilOpen_35 rfl ?_
          refine V_getR (pc := 36) C dX0_ticksUntilOpen_36 lf_X0_41 fk_21_10 ?_
          refine V_iload (pc := 39) C dX0_ticksUntilOpen_39 rfl ?_
          refine V_sipush (pc := 41) C dX0_ticksUntilOpen_41 (v := 1000) (by decide) ?_
          obtain ⟨g7, hyp⟩ := gd_n hyp
          obtain ⟨h8, eh8, hyp⟩ := hb_n hyp
          refine V_iast (pc := 44) C dX0_ticksUntilOpen_44 ak_37 g7 eh8 ?_
          refine V_aload_n (pc := 45) C dX0_ticksUntilOpen_45 rfl ?_
          refine V_getR (pc := 46) C dX0_ticksUntilOpen_46 lf_X0_44 fk_21_11 ?_
          refine V_iload_n (pc := 49) C dX0_ticksUntilOpen_49 rfl ?_
          refine V_iload (pc := 50) C dX0_ticksUntilOpen_50 rfl ?_
          obtain ⟨g9, hyp⟩ := gd_n hyp
          obtain ⟨h10, eh10, hyp⟩ := hb_n hyp
          refine V_iast (pc := 52) C dX0_ticksUntilOpen_52 ak_38 g9 eh10 ?_
          refine V_aload_n (pc := 53) C dX0_ticksUntilOpen_53 rfl ?_
          refine V_iload (pc := 54) C dX0_ticksUntilOpen_54 rfl ?_
          refine V_iconst (pc := 56) C dX0_ticksUntilOpen_56 (v := 0) (by decide) ?_
          obtain ⟨r11, h12, eh12, hyp⟩ := bI_n hyp
          refine V_callI (pc := 57) C dX0_ticksUntilOpen_57 lm_X0_101 mk_X0_behind ok_21 rfl (M_X0_behind _ eh12) rfl pd_X0_behind (by decide) (by decide) (by decide) (As := [.int x4, .int (0 : Int32)]) (rest := []) rfl (Nat.le_of_ble_eq_true rfl) ?_
          refine V_istore (pc := 60) C dX0_ticksUntilOpen_60 (by decide) rfl ?_
          obtain ⟨v13, ev13, hyp⟩ := ib_n hyp
          refine V_iinc (pc := 62) C dX0_ticksUntilOpen_62 (v := v13) rfl (by rw [ev13]; rfl) (by decide) rfl ?_
          refine V_goto (pc := 65) C dX0_ticksUntilOpen_65 (tgt := 5) (by decide) ?_
          refine V_weak (lv' := [some (.ref 21), none, some (.int x2), some (.int v13), some (.int r11), none, none]) (lvle_s (lvle_n (lvle_s (lvle_s (lvle_s (lvle_n (lvle_n lvle_0))))))) ?_
          exact ih x2 v13 r11 h12 hyp
def F_X0_ticksUntilOpen (N : Nat) (a1 : Int32) (a2 : Int32) (h : PH) : Option (Int32 × PH) :=
  F_X0_ticksUntilOpen_b5 N N a2 (0 : Int32) a1 h
set_option maxRecDepth 20000 in
set_option maxHeartbeats 4000000 in
theorem M_X0_ticksUntilOpen (E : EV) {N : Nat} {a1 : Int32} {a2 : Int32} {r : Int32} {h h2 : PH} (hyp : F_X0_ticksUntilOpen N a1 a2 h = some (r, h2)) : MI E 103 yX0_ticksUntilOpen cX0_ticksUntilOpen 7 (some .int) 2 42 [.ref 21, .int a1, .int a2] h r h2 := by
  refine MI.of 4 (by decide) rfl (fun X e1 C => ?_)
  subst e1
  replace C : CX X 103 cX0_ticksUntilOpen 7 RX0 (some .int) 2 42 := C
  show V X _ h 0 [some (.ref 21), some (.int a1), some (.int a2), none, none, none, none] []
  unfold F_X0_ticksUntilOpen at hyp
  refine V_iconst (pc := 0) C dX0_ticksUntilOpen_0 (v := 0) (by decide) ?_
  refine V_istore_n (pc := 1) C dX0_ticksUntilOpen_1 (by decide) rfl ?_
  refine V_iload_n (pc := 2) C dX0_ticksUntilOpen_2 rfl ?_
  refine V_istore (pc := 3) C dX0_ticksUntilOpen_3 (by decide) rfl ?_
  refine V_weak (lv' := [some (.ref 21), none, some (.int a2), some (.int (0 : Int32)), some (.int a1), none, none]) (lvle_s (lvle_n (lvle_s (lvle_s (lvle_s (lvle_n (lvle_n lvle_0))))))) ?_
  exact (T_X0_ticksUntilOpen_b5 C) N a2 (0 : Int32) a1 h hyp
theorem dX0_findForgetters_0 : decode cX0_findForgetters 0 = .ok (.aload_n 0, 1) := by decide +kernel
theorem dX0_findForgetters_1 : decode cX0_findForgetters 1 = .ok (.getfield 41, 3) := by decide +kernel
theorem dX0_findForgetters_4 : decode cX0_findForgetters 4 = .ok (.bipush (-2), 2) := by decide +kernel
theorem dX0_findForgetters_6 : decode cX0_findForgetters 6 = .ok (.invokestatic 67, 3) := by decide +kernel
theorem dX0_findForgetters_9 : decode cX0_findForgetters 9 = .ok (.iconst 1, 1) := by decide +kernel
theorem dX0_findForgetters_10 : decode cX0_findForgetters 10 = .ok (.istore_n 2, 1) := by decide +kernel
theorem dX0_findForgetters_11 : decode cX0_findForgetters 11 = .ok (.iconst 0, 1) := by decide +kernel
theorem dX0_findForgetters_12 : decode cX0_findForgetters 12 = .ok (.istore_n 3, 1) := by decide +kernel
theorem dX0_findForgetters_13 : decode cX0_findForgetters 13 = .ok (.iload_n 3, 1) := by decide +kernel
theorem dX0_findForgetters_14 : decode cX0_findForgetters 14 = .ok (.aload_n 0, 1) := by decide +kernel
theorem dX0_findForgetters_15 : decode cX0_findForgetters 15 = .ok (.getfield 58, 3) := by decide +kernel
theorem dX0_findForgetters_18 : decode cX0_findForgetters 18 = .ok (.if_icmp .ge 59, 3) := by decide +kernel
theorem dX0_findForgetters_21 : decode cX0_findForgetters 21 = .ok (.iload_n 2, 1) := by decide +kernel
theorem dX0_findForgetters_22 : decode cX0_findForgetters 22 = .ok (.bipush 60, 2) := by decide +kernel
theorem dX0_findForgetters_24 : decode cX0_findForgetters 24 = .ok (.if_icmp .gt 53, 3) := by decide +kernel
theorem dX0_findForgetters_27 : decode cX0_findForgetters 27 = .ok (.iconst 1, 1) := by decide +kernel
theorem dX0_findForgetters_28 : decode cX0_findForgetters 28 = .ok (.aload_n 0, 1) := by decide +kernel
theorem dX0_findForgetters_29 : decode cX0_findForgetters 29 = .ok (.aload_n 0, 1) := by decide +kernel
theorem dX0_findForgetters_30 : decode cX0_findForgetters 30 = .ok (.iload_n 3, 1) := by decide +kernel
theorem dX0_findForgetters_31 : decode cX0_findForgetters 31 = .ok (.iconst 1, 1) := by decide +kernel
theorem dX0_findForgetters_32 : decode cX0_findForgetters 32 = .ok (.iload_n 1, 1) := by decide +kernel
theorem dX0_findForgetters_33 : decode cX0_findForgetters 33 = .ok (.iadd, 1) := by decide +kernel
theorem dX0_findForgetters_34 : decode cX0_findForgetters 34 = .ok (.invokevirtual 101, 3) := by decide +kernel
theorem dX0_findForgetters_37 : decode cX0_findForgetters 37 = .ok (.iload_n 1, 1) := by decide +kernel
theorem dX0_findForgetters_38 : decode cX0_findForgetters 38 = .ok (.invokevirtual 104, 3) := by decide +kernel
theorem dX0_findForgetters_41 : decode cX0_findForgetters 41 = .ok (.iadd, 1) := by decide +kernel
theorem dX0_findForgetters_42 : decode cX0_findForgetters 42 = .ok (.istore 4, 2) := by decide +kernel
theorem dX0_findForgetters_44 : decode cX0_findForgetters 44 = .ok (.iload_n 2, 1) := by decide +kernel
theorem dX0_findForgetters_45 : decode cX0_findForgetters 45 = .ok (.bipush 60, 2) := by decide +kernel
theorem dX0_findForgetters_47 : decode cX0_findForgetters 47 = .ok (.if_icmp .gt 24, 3) := by decide +kernel
theorem dX0_findForgetters_50 : decode cX0_findForgetters 50 = .ok (.iload_n 2, 1) := by decide +kernel
theorem dX0_findForgetters_51 : decode cX0_findForgetters 51 = .ok (.iload 4, 2) := by decide +kernel
theorem dX0_findForgetters_53 : decode cX0_findForgetters 53 = .ok (.if_icmp .ge 18, 3) := by decide +kernel
theorem dX0_findForgetters_56 : decode cX0_findForgetters 56 = .ok (.aload_n 0, 1) := by decide +kernel
theorem dX0_findForgetters_57 : decode cX0_findForgetters 57 = .ok (.getfield 17, 3) := by decide +kernel
theorem dX0_findForgetters_60 : decode cX0_findForgetters 60 = .ok (.iload_n 1, 1) := by decide +kernel
theorem dX0_findForgetters_61 : decode cX0_findForgetters 61 = .ok (.aaload, 1) := by decide +kernel
theorem dX0_findForgetters_62 : decode cX0_findForgetters 62 = .ok (.iload_n 2, 1) := by decide +kernel
theorem dX0_findForgetters_63 : decode cX0_findForgetters 63 = .ok (.iload_n 3, 1) := by decide +kernel
theorem dX0_findForgetters_64 : decode cX0_findForgetters 64 = .ok (.iastore, 1) := by decide +kernel
theorem dX0_findForgetters_65 : decode cX0_findForgetters 65 = .ok (.iinc 2 1, 3) := by decide +kernel
theorem dX0_findForgetters_68 : decode cX0_findForgetters 68 = .ok (.goto (-24), 3) := by decide +kernel
theorem dX0_findForgetters_71 : decode cX0_findForgetters 71 = .ok (.iinc 3 1, 3) := by decide +kernel
theorem dX0_findForgetters_74 : decode cX0_findForgetters 74 = .ok (.goto (-61), 3) := by decide +kernel
theorem dX0_findForgetters_77 : decode cX0_findForgetters 77 = .ok (.iload_n 2, 1) := by decide +kernel
theorem dX0_findForgetters_78 : decode cX0_findForgetters 78 = .ok (.bipush 60, 2) := by decide +kernel
theorem dX0_findForgetters_80 : decode cX0_findForgetters 80 = .ok (.if_icmp .gt 18, 3) := by decide +kernel
theorem dX0_findForgetters_83 : decode cX0_findForgetters 83 = .ok (.aload_n 0, 1) := by decide +kernel
theorem dX0_findForgetters_84 : decode cX0_findForgetters 84 = .ok (.getfield 17, 3) := by decide +kernel
theorem dX0_findForgetters_87 : decode cX0_findForgetters 87 = .ok (.iload_n 1, 1) := by decide +kernel
theorem dX0_findForgetters_88 : decode cX0_findForgetters 88 = .ok (.aaload, 1) := by decide +kernel
theorem dX0_findForgetters_89 : decode cX0_findForgetters 89 = .ok (.iload_n 2, 1) := by decide +kernel
theorem dX0_findForgetters_90 : decode cX0_findForgetters 90 = .ok (.iconst (-1), 1) := by decide +kernel
theorem dX0_findForgetters_91 : decode cX0_findForgetters 91 = .ok (.iastore, 1) := by decide +kernel
theorem dX0_findForgetters_92 : decode cX0_findForgetters 92 = .ok (.iinc 2 1, 3) := by decide +kernel
theorem dX0_findForgetters_95 : decode cX0_findForgetters 95 = .ok (.goto (-18), 3) := by decide +kernel
theorem dX0_findForgetters_98 : decode cX0_findForgetters 98 = .ok (.return_, 1) := by decide +kernel
def F_X0_findForgetters_b71 (N : Nat) (rc13 : Int32 → Int32 → Int32 → PH → Option PH) (x1 : Int32) (x2 : Int32) (x3 : Int32) (h : PH) : Option PH :=
  ib (x3 + (1 : Int32)) fun v1 =>
  rc13 x1 x2 v1 h
set_option maxRecDepth 20000 in
set_option maxHeartbeats 4000000 in
theorem T_X0_findForgetters_b71 {X : CT} (C : CX X 103 cX0_findForgetters 5 RX0 none 3 68) {h0 : PH} {N : Nat} {rc13 : Int32 → Int32 → Int32 → PH → Option PH} (hr13 : ∀ (x1 : Int32) (x2 : Int32) (x3 : Int32) (h : PH), rc13 x1 x2 x3 h = some h0 → V X (QV X h0) h 13 [some (.ref 21), some (.int x1), some (.int x2), some (.int x3), none] []) : ∀ (x1 : Int32) (x2 : Int32) (x3 : Int32) (h : PH), F_X0_findForgetters_b71 N rc13 x1 x2 x3 h = some h0 → V X (QV X h0) h 71 [some (.ref 21), some (.int x1), some (.int x2), some (.int x3), none] [] := by
  intro x1 x2 x3 h hyp
  unfold F_X0_findForgetters_b71 at hyp
  obtain ⟨v1, ev1, hyp⟩ := ib_n hyp
  refine V_iinc (pc := 71) C dX0_findForgetters_71 (v := v1) rfl (by rw [ev1]; rfl) (by decide) rfl ?_
  refine V_goto (pc := 74) C dX0_findForgetters_74 (tgt := 13) (by decide) ?_
  refine V_weak (lv' := [some (.ref 21), some (.int x1), some (.int x2), some (.int v1), none]) (lvle_s (lvle_s (lvle_s (lvle_s (lvle_n lvle_0))))) ?_
  exact hr13 x1 x2 v1 h hyp
def F_X0_findForgetters_b44 (N : Nat) (rc13 : Int32 → Int32 → Int32 → PH → Option PH) : Nat → Int32 → Int32 → Int32 → Int32 → PH → Option PH
  | 0, _, _, _, _, _ => none
  | n + 1, x1, x2, x3, x4, h =>
    if (60 : Int32) < x2 then
      F_X0_findForgetters_b71 N rc13 x1 x2 x3 h
    else
      if x4 ≤ x2 then
        F_X0_findForgetters_b71 N rc13 x1 x2 x3 h
      else
        if inb x1 6 = true then
        if inb x2 61 = true then
        hb (hs h (24 + x1.toNatClampNeg) x2.toNatClampNeg x3) fun h5 =>
        ib (x2 + (1 : Int32)) fun v6 =>
        F_X0_findForgetters_b44 N rc13 n x1 v6 x3 x4 h5
        else none
        else none
set_option maxRecDepth 20000 in
set_option maxHeartbeats 4000000 in
theorem T_X0_findForgetters_b44 {X : CT} (C : CX X 103 cX0_findForgetters 5 RX0 none 3 68) {h0 : PH} {N : Nat} {rc13 : Int32 → Int32 → Int32 → PH → Option PH} (hr13 : ∀ (x1 : Int32) (x2 : Int32) (x3 : Int32) (h : PH), rc13 x1 x2 x3 h = some h0 → V X (QV X h0) h 13 [some (.ref 21), some (.int x1), some (.int x2), some (.int x3), none] []) : ∀ (n : Nat) (x1 : Int32) (x2 : Int32) (x3 : Int32) (x4 : Int32) (h : PH), F_X0_findForgetters_b44 N rc13 n x1 x2 x3 x4 h = some h0 → V X (QV X h0) h 44 [some (.ref 21), some (.int x1), some (.int x2), some (.int x3), some (.int x4)] [] := by
  intro n
  induction n with
  | zero =>
    intro x1 x2 x3 x4 h hyp
    cases hyp
  | succ n ih =>
    intro x1 x2 x3 x4 h hyp
    unfold F_X0_findForgetters_b44 at hyp
    refine V_iload_n (pc := 44) C dX0_findForgetters_44 rfl ?_
    refine V_bipush (pc := 45) C dX0_findForgetters_45 (v := 60) (by decide) ?_
    refine V_icmp_gt (pc := 47) C dX0_findForgetters_47 (tgt := 71) (by decide) (fun q1 => ?_) (fun q1 => ?_)
    · replace hyp := (if_pos q1).symm.trans hyp
      refine V_weak (lv' := [some (.ref 21), some (.int x1), some (.int x2), some (.int x3), none]) (lvle_s (lvle_s (lvle_s (lvle_s (lvle_n lvle_0))))) ?_
      exact (T_X0_findForgetters_b71 C hr13) x1 x2 x3 h hyp
    · replace hyp := (if_neg q1).symm.trans hyp
      refine V_iload_n (pc := 50) C dX0_findForgetters_50 rfl ?_
      refine V_iload (pc := 51) C dX0_findForgetters_51 rfl ?_
      refine V_icmp_ge (pc := 53) C dX0_findForgetters_53 (tgt := 71) (by decide) (fun q2 => ?_) (fun q2 => ?_)
      · replace hyp := (if_pos q2).symm.trans hyp
        refine V_weak (lv' := [some (.ref 21), some (.int x1), some (.int x2), some (.int x3), none]) (lvle_s (lvle_s (lvle_s (lvle_s (lvle_n lvle_0))))) ?_
        exact (T_X0_findForgetters_b71 C hr13) x1 x2 x3 h hyp
      · replace hyp := (if_neg q2).symm.trans hyp
        refine V_aload_n (pc := 56) C dX0_findForgetters_56 rfl ?_
        refine V_getR (pc := 57) C dX0_findForgetters_57 lf_X0_17 fk_21_2 ?_
        refine V_iload_n (pc := 60) C dX0_findForgetters_60 rfl ?_
        obtain ⟨g3, hyp⟩ := gd_n hyp
        refine V_aald (pc := 61) C dX0_findForgetters_61 ak_23 g3 ?_
        refine V_iload_n (pc := 62) C dX0_findForgetters_62 rfl ?_
        refine V_iload_n (pc := 63) C dX0_findForgetters_63 rfl ?_
        obtain ⟨g4, hyp⟩ := gd_n hyp
        obtain ⟨h5, eh5, hyp⟩ := hb_n hyp
        refine V_iast (pc := 64) C dX0_findForgetters_64 (akr_23 g3) g4 eh5 ?_
        obtain ⟨v6, ev6, hyp⟩ := ib_n hyp
        refine V_iinc (pc := 65) C dX0_findForgetters_65 (v := v6) rfl (by rw [ev6]; rfl) (by decide) rfl ?_
        refine V_goto (pc := 68) C dX0_findForgetters_68 (tgt := 44) (by decide) ?_
        refine V_weak (lv' := [some (.ref 21), some (.int x1), some (.int v6), some (.int x3), some (.int x4)]) (lvle_s (lvle_s (lvle_s (lvle_s (lvle_s lvle_0))))) ?_
        exact ih x1 v6 x3 x4 h5 hyp
def F_X0_findForgetters_b77 (N : Nat) : Nat → Int32 → Int32 → PH → Option PH
  | 0, _, _, _ => none
  | n + 1, x1, x2, h =>
    if (60 : Int32) < x2 then
      some h
    else
      if inb x1 6 = true then
      if inb x2 61 = true then
      hb (hs h (24 + x1.toNatClampNeg) x2.toNatClampNeg (-1 : Int32)) fun h4 =>
      ib (x2 + (1 : Int32)) fun v5 =>
      F_X0_findForgetters_b77 N n x1 v5 h4
      else none
      else none
set_option maxRecDepth 20000 in
set_option maxHeartbeats 4000000 in
theorem T_X0_findForgetters_b77 {X : CT} (C : CX X 103 cX0_findForgetters 5 RX0 none 3 68) {h0 : PH} {N : Nat} : ∀ (n : Nat) (x1 : Int32) (x2 : Int32) (h : PH), F_X0_findForgetters_b77 N n x1 x2 h = some h0 → V X (QV X h0) h 77 [some (.ref 21), some (.int x1), some (.int x2), none, none] [] := by
  intro n
  induction n with
  | zero =>
    intro x1 x2 h hyp
    cases hyp
  | succ n ih =>
    intro x1 x2 h hyp
    unfold F_X0_findForgetters_b77 at hyp
    refine V_iload_n (pc := 77) C dX0_findForgetters_77 rfl ?_
    refine V_bipush (pc := 78) C dX0_findForgetters_78 (v := 60) (by decide) ?_
    refine V_icmp_gt (pc := 80) C dX0_findForgetters_80 (tgt := 98) (by decide) (fun q1 => ?_) (fun q1 => ?_)
    · replace hyp := (if_pos q1).symm.trans hyp
      cases hyp
      exact V_vret C dX0_findForgetters_98
    · replace hyp := (if_neg q1).symm.trans hyp
      refine V_aload_n (pc := 83) C dX0_findForgetters_83 rfl ?_
      refine V_getR (pc := 84) C dX0_findForgetters_84 lf_X0_17 fk_21_2 ?_
      refine V_iload_n (pc := 87) C dX0_findForgetters_87 rfl ?_
      obtain ⟨g2, hyp⟩ := gd_n hyp
      refine V_aald (pc := 88) C dX0_findForgetters_88 ak_23 g2 ?_
      refine V_iload_n (pc := 89) C dX0_findForgetters_89 rfl ?_
      refine V_iconst (pc := 90) C dX0_findForgetters_90 (v := -1) (by decide) ?_
      obtain ⟨g3, hyp⟩ := gd_n hyp
      obtain ⟨h4, eh4, hyp⟩ := hb_n hyp
      refine V_iast (pc := 91) C dX0_findForgetters_91 (akr_23 g2) g3 eh4 ?_
      obtain ⟨v5, ev5, hyp⟩ := ib_n hyp
      refine V_iinc (pc := 92) C dX0_findForgetters_92 (v := v5) rfl (by rw [ev5]; rfl) (by decide) rfl ?_
      refine V_goto (pc := 95) C dX0_findForgetters_95 (tgt := 77) (by decide) ?_
      refine V_weak (lv' := [some (.ref 21), some (.int x1), some (.int v5), none, none]) (lvle_s (lvle_s (lvle_s (lvle_n (lvle_n lvle_0))))) ?_
      exact ih x1 v5 h4 hyp
def F_X0_findForgetters_b13 (N : Nat) : Nat → Int32 → Int32 → Int32 → PH → Option PH
  | 0, _, _, _, _ => none
  | n + 1, x1, x2, x3, h =>
    if (h.1 21 13) ≤ x3 then
      F_X0_findForgetters_b77 N N x1 x2 h
    else
      if (60 : Int32) < x2 then
        F_X0_findForgetters_b77 N N x1 x2 h
      else
        bI (F_X0_behind x3 ((1 : Int32) + x1) h) fun r3 h4 =>
        bI (F_X0_ticksUntilOpen N r3 x1 h4) fun r5 h6 =>
        ib ((1 : Int32) + r5) fun v7 =>
        F_X0_findForgetters_b44 N (F_X0_findForgetters_b13 N n) N x1 x2 x3 v7 h6
set_option maxRecDepth 20000 in
set_option maxHeartbeats 4000000 in
theorem T_X0_findForgetters_b13 {X : CT} (C : CX X 103 cX0_findForgetters 5 RX0 none 3 68) {h0 : PH} {N : Nat} : ∀ (n : Nat) (x1 : Int32) (x2 : Int32) (x3 : Int32) (h : PH), F_X0_findForgetters_b13 N n x1 x2 x3 h = some h0 → V X (QV X h0) h 13 [some (.ref 21), some (.int x1), some (.int x2), some (.int x3), none] [] := by
  intro n
  induction n with
  | zero =>
    intro x1 x2 x3 h hyp
    cases hyp
  | succ n ih =>
    intro x1 x2 x3 h hyp
    unfold F_X0_findForgetters_b13 at hyp
    refine V_iload_n (pc := 13) C dX0_findForgetters_13 rfl ?_
    refine V_aload_n (pc := 14) C dX0_findForgetters_14 rfl ?_
    refine V_getI (pc := 15) C dX0_findForgetters_15 lf_X0_58 fk_21_13 ?_
    refine V_icmp_ge (pc := 18) C dX0_findForgetters_18 (tgt := 77) (by decide) (fun q1 => ?_) (fun q1 => ?_)
    · replace hyp := (if_pos q1).symm.trans hyp
      refine V_weak (lv' := [some (.ref 21), some (.int x1), some (.int x2), none, none]) (lvle_s (lvle_s (lvle_s (lvle_n (lvle_n lvle_0))))) ?_
      exact (T_X0_findForgetters_b77 C) N x1 x2 h hyp
    · replace hyp := (if_neg q1).symm.trans hyp
      refine V_iload_n (pc := 21) C dX0_findForgetters_21 rfl ?_
      refine V_bipush (pc := 22) C dX0_findForgetters_22 (v := 60) (by decide) ?_
      refine V_icmp_gt (pc := 24) C dX0_findForgetters_24 (tgt := 77) (by decide) (fun q2 => ?_) (fun q2 => ?_)
      · replace hyp := (if_pos q2).symm.trans hyp
        refine V_weak (lv' := [some (.ref 21), some (.int x1), some (.int x2), none, none]) (lvle_s (lvle_s (lvle_s (lvle_n (lvle_n lvle_0))))) ?_
        exact (T_X0_findForgetters_b77 C) N x1 x2 h hyp
      · replace hyp := (if_neg q2).symm.trans hyp
        refine V_iconst (pc := 27) C dX0_findForgetters_27 (v := 1) (by decide) ?_
        refine V_aload_n (pc := 28) C dX0_findForgetters_28 rfl ?_
        refine V_aload_n (pc := 29) C dX0_findForgetters_29 rfl ?_
        refine V_iload_n (pc := 30) C dX0_findForgetters_30 rfl ?_
        refine V_iconst (pc := 31) C dX0_findForgetters_31 (v := 1) (by decide) ?_
        refine V_iload_n (pc := 32) C dX0_findForgetters_32 rfl ?_
        refine V_iadd (pc := 33) C dX0_findForgetters_33 ?_
        obtain ⟨r3, h4, eh4, hyp⟩ := bI_n hyp
        refine V_callI (pc := 34) C dX0_findForgetters_34 lm_X0_101 mk_X0_behind ok_21 rfl (M_X0_behind _ eh4) rfl pd_X0_behind (by decide) (by decide) (by decide) (As := [.int x3, .int ((1 : Int32) + x1)]) (rest := [.ref 21, .int (1 : Int32)]) rfl (Nat.le_of_ble_eq_true rfl) ?_
        refine V_iload_n (pc := 37) C dX0_findForgetters_37 rfl ?_
        obtain ⟨r5, h6, eh6, hyp⟩ := bI_n hyp
        refine V_callI (pc := 38) C dX0_findForgetters_38 lm_X0_104 mk_X0_ticksUntilOpen ok_21 rfl (M_X0_ticksUntilOpen _ eh6) rfl pd_X0_ticksUntilOpen (by decide) (by decide) (by decide) (As := [.int r3, .int x1]) (rest := [.int (1 : Int32)]) rfl (Nat.le_of_ble_eq_true rfl) ?_
        refine V_iadd (pc := 41) C dX0_findForgetters_41 ?_
        obtain ⟨v7, ev7, hyp⟩ := ib_n hyp
        refine V_topI ev7 ?_
        refine V_istore (pc := 42) C dX0_findForgetters_42 (by decide) rfl ?_
        refine V_weak (lv' := [some (.ref 21), some (.int x1), some (.int x2), some (.int x3), some (.int v7)]) (lvle_s (lvle_s (lvle_s (lvle_s (lvle_s lvle_0))))) ?_
        exact (T_X0_findForgetters_b44 C ih) N x1 x2 x3 v7 h6 hyp
def F_X0_findForgetters (N : Nat) (a1 : Int32) (h : PH) : Option PH :=
  hb (hfill h 37 3072 (-2 : Int32)) fun h1 =>
  F_X0_findForgetters_b13 N N a1 (1 : Int32) (0 : Int32) h1
set_option maxRecDepth 20000 in
set_option maxHeartbeats 4000000 in
theorem M_X0_findForgetters (E : EV) {N : Nat} {a1 : Int32} {h h2 : PH} (hyp : F_X0_findForgetters N a1 h = some h2) : MV E 103 yX0_findForgetters cX0_findForgetters 5 none 3 68 [.ref 21, .int a1] h h2 := by
  refine MV.of 3 (by decide) rfl (fun X e1 C => ?_)
  subst e1
  replace C : CX X 103 cX0_findForgetters 5 RX0 none 3 68 := C
  show V X _ h 0 [some (.ref 21), some (.int a1), none, none, none] []
  unfold F_X0_findForgetters at hyp
  refine V_aload_n (pc := 0) C dX0_findForgetters_0 rfl ?_
  refine V_getR (pc := 1) C dX0_findForgetters_1 lf_X0_41 fk_21_10 ?_
  refine V_bipush (pc := 4) C dX0_findForgetters_4 (v := -2) (by decide) ?_
  obtain ⟨h1, eh1, hyp⟩ := hb_n hyp
  refine V_statV (pc := 6) C dX0_findForgetters_6 lm_X0_67 ms_J7_fill_53178 (M_fill _ ak_37 (by decide) eh1) rfl pd_J7_fill_53178 (by decide) (by decide) (by decide) (rest := []) rfl (Nat.le_of_ble_eq_true rfl) ?_
  refine V_iconst (pc := 9) C dX0_findForgetters_9 (v := 1) (by decide) ?_
  refine V_istore_n (pc := 10) C dX0_findForgetters_10 (by decide) rfl ?_
  refine V_iconst (pc := 11) C dX0_findForgetters_11 (v := 0) (by decide) ?_
  refine V_istore_n (pc := 12) C dX0_findForgetters_12 (by decide) rfl ?_
  refine V_weak (lv' := [some (.ref 21), some (.int a1), some (.int (1 : Int32)), some (.int (0 : Int32)), none]) (lvle_s (lvle_s (lvle_s (lvle_s (lvle_n lvle_0))))) ?_
  exact (T_X0_findForgetters_b13 C) N a1 (1 : Int32) (0 : Int32) h1 hyp
theorem dX0_forgetterOf_0 : decode cX0_forgetterOf 0 = .ok (.aload_n 0, 1) := by decide +kernel
theorem dX0_forgetterOf_1 : decode cX0_forgetterOf 1 = .ok (.invokevirtual 55, 3) := by decide +kernel
theorem dX0_forgetterOf_4 : decode cX0_forgetterOf 4 = .ok (.iload_n 1, 1) := by decide +kernel
theorem dX0_forgetterOf_5 : decode cX0_forgetterOf 5 = .ok (.ifCond .lt 20, 3) := by decide +kernel
theorem dX0_forgetterOf_8 : decode cX0_forgetterOf 8 = .ok (.iload_n 1, 1) := by decide +kernel
theorem dX0_forgetterOf_9 : decode cX0_forgetterOf 9 = .ok (.bipush 6, 2) := by decide +kernel
theorem dX0_forgetterOf_11 : decode cX0_forgetterOf 11 = .ok (.if_icmp .ge 14, 3) := by decide +kernel
theorem dX0_forgetterOf_14 : decode cX0_forgetterOf 14 = .ok (.iload_n 2, 1) := by decide +kernel
theorem dX0_forgetterOf_15 : decode cX0_forgetterOf 15 = .ok (.iconst 1, 1) := by decide +kernel
theorem dX0_forgetterOf_16 : decode cX0_forgetterOf 16 = .ok (.if_icmp .lt 9, 3) := by decide +kernel
theorem dX0_forgetterOf_19 : decode cX0_forgetterOf 19 = .ok (.iload_n 2, 1) := by decide +kernel
theorem dX0_forgetterOf_20 : decode cX0_forgetterOf 20 = .ok (.bipush 60, 2) := by decide +kernel
theorem dX0_forgetterOf_22 : decode cX0_forgetterOf 22 = .ok (.if_icmp .le 5, 3) := by decide +kernel
theorem dX0_forgetterOf_25 : decode cX0_forgetterOf 25 = .ok (.iconst (-1), 1) := by decide +kernel
theorem dX0_forgetterOf_26 : decode cX0_forgetterOf 26 = .ok (.ireturn, 1) := by decide +kernel
theorem dX0_forgetterOf_27 : decode cX0_forgetterOf 27 = .ok (.aload_n 0, 1) := by decide +kernel
theorem dX0_forgetterOf_28 : decode cX0_forgetterOf 28 = .ok (.getfield 17, 3) := by decide +kernel
theorem dX0_forgetterOf_31 : decode cX0_forgetterOf 31 = .ok (.iload_n 1, 1) := by decide +kernel
theorem dX0_forgetterOf_32 : decode cX0_forgetterOf 32 = .ok (.aaload, 1) := by decide +kernel
theorem dX0_forgetterOf_33 : decode cX0_forgetterOf 33 = .ok (.iconst 0, 1) := by decide +kernel
theorem dX0_forgetterOf_34 : decode cX0_forgetterOf 34 = .ok (.iaload, 1) := by decide +kernel
theorem dX0_forgetterOf_35 : decode cX0_forgetterOf 35 = .ok (.bipush (-2), 2) := by decide +kernel
theorem dX0_forgetterOf_37 : decode cX0_forgetterOf 37 = .ok (.if_icmp .ne 17, 3) := by decide +kernel
theorem dX0_forgetterOf_40 : decode cX0_forgetterOf 40 = .ok (.aload_n 0, 1) := by decide +kernel
theorem dX0_forgetterOf_41 : decode cX0_forgetterOf 41 = .ok (.getfield 17, 3) := by decide +kernel
theorem dX0_forgetterOf_44 : decode cX0_forgetterOf 44 = .ok (.iload_n 1, 1) := by decide +kernel
theorem dX0_forgetterOf_45 : decode cX0_forgetterOf 45 = .ok (.aaload, 1) := by decide +kernel
theorem dX0_forgetterOf_46 : decode cX0_forgetterOf 46 = .ok (.iconst 0, 1) := by decide +kernel
theorem dX0_forgetterOf_47 : decode cX0_forgetterOf 47 = .ok (.iconst (-1), 1) := by decide +kernel
theorem dX0_forgetterOf_48 : decode cX0_forgetterOf 48 = .ok (.iastore, 1) := by decide +kernel
theorem dX0_forgetterOf_49 : decode cX0_forgetterOf 49 = .ok (.aload_n 0, 1) := by decide +kernel
theorem dX0_forgetterOf_50 : decode cX0_forgetterOf 50 = .ok (.iload_n 1, 1) := by decide +kernel
theorem dX0_forgetterOf_51 : decode cX0_forgetterOf 51 = .ok (.invokevirtual 97, 3) := by decide +kernel
theorem dX0_forgetterOf_54 : decode cX0_forgetterOf 54 = .ok (.aload_n 0, 1) := by decide +kernel
theorem dX0_forgetterOf_55 : decode cX0_forgetterOf 55 = .ok (.getfield 17, 3) := by decide +kernel
theorem dX0_forgetterOf_58 : decode cX0_forgetterOf 58 = .ok (.iload_n 1, 1) := by decide +kernel
theorem dX0_forgetterOf_59 : decode cX0_forgetterOf 59 = .ok (.aaload, 1) := by decide +kernel
theorem dX0_forgetterOf_60 : decode cX0_forgetterOf 60 = .ok (.iload_n 2, 1) := by decide +kernel
theorem dX0_forgetterOf_61 : decode cX0_forgetterOf 61 = .ok (.iaload, 1) := by decide +kernel
theorem dX0_forgetterOf_62 : decode cX0_forgetterOf 62 = .ok (.ireturn, 1) := by decide +kernel
def F_X0_forgetterOf_b54 (N : Nat) (x1 : Int32) (x2 : Int32) (h : PH) : Option (Int32 × PH) :=
  if inb x1 6 = true then
  if inb x2 61 = true then
  some (h.1 (24 + x1.toNatClampNeg) x2.toNatClampNeg, h)
  else none
  else none
set_option maxRecDepth 20000 in
set_option maxHeartbeats 4000000 in
theorem T_X0_forgetterOf_b54 {X : CT} (C : CX X 103 cX0_forgetterOf 3 RX0 (some .int) 5 120) {r0 : Int32} {h0 : PH} {N : Nat} : ∀ (x1 : Int32) (x2 : Int32) (h : PH), F_X0_forgetterOf_b54 N x1 x2 h = some (r0, h0) → V X (QI X r0 h0) h 54 [some (.ref 21), some (.int x1), some (.int x2)] [] := by
  intro x1 x2 h hyp
  unfold F_X0_forgetterOf_b54 at hyp
  refine V_aload_n (pc := 54) C dX0_forgetterOf_54 rfl ?_
  refine V_getR (pc := 55) C dX0_forgetterOf_55 lf_X0_17 fk_21_2 ?_
  refine V_iload_n (pc := 58) C dX0_forgetterOf_58 rfl ?_
  obtain ⟨g1, hyp⟩ := gd_n hyp
  refine V_aald (pc := 59) C dX0_forgetterOf_59 ak_23 g1 ?_
  refine V_iload_n (pc := 60) C dX0_forgetterOf_60 rfl ?_
  obtain ⟨g2, hyp⟩ := gd_n hyp
  refine V_iald (pc := 61) C dX0_forgetterOf_61 (akr_23 g1) g2 ?_
  cases hyp
  exact V_iret C dX0_forgetterOf_62
def F_X0_forgetterOf (N : Nat) (a1 : Int32) (a2 : Int32) (h : PH) : Option (Int32 × PH) :=
  bV (F_X0_explore N  h) fun h2 =>
  if a1 < 0 then
    some ((-1 : Int32), h2)
  else
    if (6 : Int32) ≤ a1 then
      some ((-1 : Int32), h2)
    else
      if a2 < (1 : Int32) then
        some ((-1 : Int32), h2)
      else
        if a2 ≤ (60 : Int32) then
          if inb a1 6 = true then
          if inb (0 : Int32) 61 = true then
          if (h2.1 (24 + a1.toNatClampNeg) (0 : Int32).toNatClampNeg) = (-2 : Int32) then
            if inb a1 6 = true then
            if inb (0 : Int32) 61 = true then
            hb (hs h2 (24 + a1.toNatClampNeg) (0 : Int32).toNatClampNeg (-1 : Int32)) fun h12 =>
            bV (F_X0_findForgetters N a1 h12) fun h14 =>
            F_X0_forgetterOf_b54 N a1 a2 h14
            else none
            else none
          else
            F_X0_forgetterOf_b54 N a1 a2 h2
          else none
          else none
        else
          some ((-1 : Int32), h2)
set_option maxRecDepth 20000 in
set_option maxHeartbeats 4000000 in
theorem M_X0_forgetterOf (E : EV) {N : Nat} {a1 : Int32} {a2 : Int32} {r : Int32} {h h2 : PH} (hyp : F_X0_forgetterOf N a1 a2 h = some (r, h2)) : MI E 103 yX0_forgetterOf cX0_forgetterOf 3 (some .int) 5 120 [.ref 21, .int a1, .int a2] h r h2 := by
  refine MI.of 0 (by decide) rfl (fun X e1 C => ?_)
  subst e1
  replace C : CX X 103 cX0_forgetterOf 3 RX0 (some .int) 5 120 := C
  show V X _ h 0 [some (.ref 21), some (.int a1), some (.int a2)] []
  unfold F_X0_forgetterOf at hyp
  refine V_aload_n (pc := 0) C dX0_forgetterOf_0 rfl ?_
  obtain ⟨h2, eh2, hyp⟩ := bV_n hyp
  refine V_callV (pc := 1) C dX0_forgetterOf_1 lm_X0_55 mk_X0_explore ok_21 rfl (M_X0_explore _ eh2) rfl pd_X0_explore (by decide) (by decide) (by decide) (As := []) (rest := []) rfl (Nat.le_of_ble_eq_true rfl) ?_
  refine V_iload_n (pc := 4) C dX0_forgetterOf_4 rfl ?_
  refine V_if_lt (pc := 5) C dX0_forgetterOf_5 (tgt := 25) (by decide) (fun q3 => ?_) (fun q3 => ?_)
  · replace hyp := (if_pos q3).symm.trans hyp
    refine V_iconst (pc := 25) C dX0_forgetterOf_25 (v := -1) (by decide) ?_
    cases hyp
    exact V_iret C dX0_forgetterOf_26
  · replace hyp := (if_neg q3).symm.trans hyp
    refine V_iload_n (pc := 8) C dX0_forgetterOf_8 rfl ?_
    refine V_bipush (pc := 9) C dX0_forgetterOf_9 (v := 6) (by decide) ?_
    refine V_icmp_ge (pc := 11) C dX0_forgetterOf_11 (tgt := 25) (by decide) (fun q4 => ?_) (fun q4 => ?_)
    · replace hyp := (if_pos q4).symm.trans hyp
      refine V_iconst (pc := 25) C dX0_forgetterOf_25 (v := -1) (by decide) ?_
      cases hyp
      exact V_iret C dX0_forgetterOf_26
    · replace hyp := (if_neg q4).symm.trans hyp
      refine V_iload_n (pc := 14) C dX0_forgetterOf_14 rfl ?_
      refine V_iconst (pc := 15) C dX0_forgetterOf_15 (v := 1) (by decide) ?_
      refine V_icmp_lt (pc := 16) C dX0_forgetterOf_16 (tgt := 25) (by decide) (fun q5 => ?_) (fun q5 => ?_)
      · replace hyp := (if_pos q5).symm.trans hyp
        refine V_iconst (pc := 25) C dX0_forgetterOf_25 (v := -1) (by decide) ?_
        cases hyp
        exact V_iret C dX0_forgetterOf_26
      · replace hyp := (if_neg q5).symm.trans hyp
        refine V_iload_n (pc := 19) C dX0_forgetterOf_19 rfl ?_
        refine V_bipush (pc := 20) C dX0_forgetterOf_20 (v := 60) (by decide) ?_
        refine V_icmp_le (pc := 22) C dX0_forgetterOf_22 (tgt := 27) (by decide) (fun q6 => ?_) (fun q6 => ?_)
        · replace hyp := (if_pos q6).symm.trans hyp
          refine V_aload_n (pc := 27) C dX0_forgetterOf_27 rfl ?_
          refine V_getR (pc := 28) C dX0_forgetterOf_28 lf_X0_17 fk_21_2 ?_
          refine V_iload_n (pc := 31) C dX0_forgetterOf_31 rfl ?_
          obtain ⟨g7, hyp⟩ := gd_n hyp
          refine V_aald (pc := 32) C dX0_forgetterOf_32 ak_23 g7 ?_
          refine V_iconst (pc := 33) C dX0_forgetterOf_33 (v := 0) (by decide) ?_
          obtain ⟨g8, hyp⟩ := gd_n hyp
          refine V_iald (pc := 34) C dX0_forgetterOf_34 (akr_23 g7) g8 ?_
          refine V_bipush (pc := 35) C dX0_forgetterOf_35 (v := -2) (by decide) ?_
          refine V_icmp_ne (pc := 37) C dX0_forgetterOf_37 (tgt := 54) (by decide) (fun q9 => ?_) (fun q9 => ?_)
          · replace hyp := (if_neg q9).symm.trans hyp
            refine V_weak (lv' := [some (.ref 21), some (.int a1), some (.int a2)]) (lvle_s (lvle_s (lvle_s lvle_0))) ?_
            exact (T_X0_forgetterOf_b54 C) a1 a2 h2 hyp
          · replace hyp := (if_pos q9).symm.trans hyp
            refine V_aload_n (pc := 40) C dX0_forgetterOf_40 rfl ?_
            refine V_getR (pc := 41) C dX0_forgetterOf_41 lf_X0_17 fk_21_2 ?_
            refine V_iload_n (pc := 44) C dX0_forgetterOf_44 rfl ?_
            obtain ⟨g10, hyp⟩ := gd_n hyp
            refine V_aald (pc := 45) C dX0_forgetterOf_45 ak_23 g10 ?_
            refine V_iconst (pc := 46) C dX0_forgetterOf_46 (v := 0) (by decide) ?_
            refine V_iconst (pc := 47) C dX0_forgetterOf_47 (v := -1) (by decide) ?_
            obtain ⟨g11, hyp⟩ := gd_n hyp
            obtain ⟨h12, eh12, hyp⟩ := hb_n hyp
            refine V_iast (pc := 48) C dX0_forgetterOf_48 (akr_23 g10) g11 eh12 ?_
            refine V_aload_n (pc := 49) C dX0_forgetterOf_49 rfl ?_
            refine V_iload_n (pc := 50) C dX0_forgetterOf_50 rfl ?_
            obtain ⟨h14, eh14, hyp⟩ := bV_n hyp
            refine V_callV (pc := 51) C dX0_forgetterOf_51 lm_X0_97 mk_X0_findForgetters ok_21 rfl (M_X0_findForgetters _ eh14) rfl pd_X0_findForgetters (by decide) (by decide) (by decide) (As := [.int a1]) (rest := []) rfl (Nat.le_of_ble_eq_true rfl) ?_
            refine V_weak (lv' := [some (.ref 21), some (.int a1), some (.int a2)]) (lvle_s (lvle_s (lvle_s lvle_0))) ?_
            exact (T_X0_forgetterOf_b54 C) a1 a2 h14 hyp
        · replace hyp := (if_neg q6).symm.trans hyp
          refine V_iconst (pc := 25) C dX0_forgetterOf_25 (v := -1) (by decide) ?_
          cases hyp
          exact V_iret C dX0_forgetterOf_26
