theorem dX1_weigh_0 : decode cX1_weigh 0 = .ok (.aload_n 0, 1) := by decide +kernel
theorem dX1_weigh_1 : decode cX1_weigh 1 = .ok (.getfield 9, 3) := by decide +kernel
theorem dX1_weigh_4 : decode cX1_weigh 4 = .ok (.iload_n 1, 1) := by decide +kernel
theorem dX1_weigh_5 : decode cX1_weigh 5 = .ok (.iaload, 1) := by decide +kernel
theorem dX1_weigh_6 : decode cX1_weigh 6 = .ok (.iconst (-1), 1) := by decide +kernel
theorem dX1_weigh_7 : decode cX1_weigh 7 = .ok (.if_icmp .eq 13, 3) := by decide +kernel
theorem dX1_weigh_10 : decode cX1_weigh 10 = .ok (.iload_n 2, 1) := by decide +kernel
theorem dX1_weigh_11 : decode cX1_weigh 11 = .ok (.aload_n 0, 1) := by decide +kernel
theorem dX1_weigh_12 : decode cX1_weigh 12 = .ok (.getfield 9, 3) := by decide +kernel
theorem dX1_weigh_15 : decode cX1_weigh 15 = .ok (.iload_n 1, 1) := by decide +kernel
theorem dX1_weigh_16 : decode cX1_weigh 16 = .ok (.iaload, 1) := by decide +kernel
theorem dX1_weigh_17 : decode cX1_weigh 17 = .ok (.if_icmp .ge 17, 3) := by decide +kernel
theorem dX1_weigh_20 : decode cX1_weigh 20 = .ok (.aload_n 0, 1) := by decide +kernel
theorem dX1_weigh_21 : decode cX1_weigh 21 = .ok (.getfield 9, 3) := by decide +kernel
theorem dX1_weigh_24 : decode cX1_weigh 24 = .ok (.iload_n 1, 1) := by decide +kernel
theorem dX1_weigh_25 : decode cX1_weigh 25 = .ok (.iload_n 2, 1) := by decide +kernel
theorem dX1_weigh_26 : decode cX1_weigh 26 = .ok (.iastore, 1) := by decide +kernel
theorem dX1_weigh_27 : decode cX1_weigh 27 = .ok (.aload_n 0, 1) := by decide +kernel
theorem dX1_weigh_28 : decode cX1_weigh 28 = .ok (.getfield 15, 3) := by decide +kernel
theorem dX1_weigh_31 : decode cX1_weigh 31 = .ok (.iload_n 1, 1) := by decide +kernel
theorem dX1_weigh_32 : decode cX1_weigh 32 = .ok (.iload_n 3, 1) := by decide +kernel
theorem dX1_weigh_33 : decode cX1_weigh 33 = .ok (.iastore, 1) := by decide +kernel
theorem dX1_weigh_34 : decode cX1_weigh 34 = .ok (.return_, 1) := by decide +kernel
def F_X1_weigh_b20 (x1 : Int32) (x2 : Int32) (x3 : Int32) (h : PH) : Option PH :=
  if inb x1 3 = true then
  hb (hs h 81 x1.toNatClampNeg x2) fun h2 =>
  hb (hs h2 82 x1.toNatClampNeg x3) fun h3 =>
  some h3
  else none
set_option maxRecDepth 20000 in
set_option maxHeartbeats 4000000 in
theorem T_X1_weigh_b20 {X : CT} (C : CX X 103 cX1_weigh 4 RX1 none 0 0) {h0 : PH} : ∀ (x1 : Int32) (x2 : Int32) (x3 : Int32) (h : PH), F_X1_weigh_b20 x1 x2 x3 h = some h0 → V X (QV X h0) h 20 [some (.ref 80), some (.int x1), some (.int x2), some (.int x3)] [] := by
  intro x1 x2 x3 h hyp
  unfold F_X1_weigh_b20 at hyp
  refine V_aload_n (pc := 20) C dX1_weigh_20 rfl ?_
  refine V_getR (pc := 21) C dX1_weigh_21 lf_X1_9 fk_80_0 ?_
  refine V_iload_n (pc := 24) C dX1_weigh_24 rfl ?_
  refine V_iload_n (pc := 25) C dX1_weigh_25 rfl ?_
  obtain ⟨g1, hyp⟩ := gd_n hyp
  obtain ⟨h2, eh2, hyp⟩ := hb_n hyp
  refine V_iast (pc := 26) C dX1_weigh_26 ak_81 g1 eh2 ?_
  refine V_aload_n (pc := 27) C dX1_weigh_27 rfl ?_
  refine V_getR (pc := 28) C dX1_weigh_28 lf_X1_15 fk_80_1 ?_
  refine V_iload_n (pc := 31) C dX1_weigh_31 rfl ?_
  refine V_iload_n (pc := 32) C dX1_weigh_32 rfl ?_
  obtain ⟨h3, eh3, hyp⟩ := hb_n hyp
  refine V_iast (pc := 33) C dX1_weigh_33 ak_82 g1 eh3 ?_
  cases hyp
  exact V_vret C dX1_weigh_34
def F_X1_weigh (a1 : Int32) (a2 : Int32) (a3 : Int32) (h : PH) : Option PH :=
  if inb a1 3 = true then
  if (h.1 81 a1.toNatClampNeg) = (-1 : Int32) then
    F_X1_weigh_b20 a1 a2 a3 h
  else
    if inb a1 3 = true then
    if (h.1 81 a1.toNatClampNeg) ≤ a2 then
      some h
    else
      F_X1_weigh_b20 a1 a2 a3 h
    else none
  else none
set_option maxRecDepth 20000 in
set_option maxHeartbeats 4000000 in
theorem M_X1_weigh (E : EV) {a1 : Int32} {a2 : Int32} {a3 : Int32} {h h2 : PH} (hyp : F_X1_weigh a1 a2 a3 h = some h2) : MV E 103 yX1_weigh cX1_weigh 4 none 0 0 [.ref 80, .int a1, .int a2, .int a3] h h2 := by
  refine MV.of 0 (by decide) rfl (fun X e1 C => ?_)
  subst e1
  replace C : CX X 103 cX1_weigh 4 RX1 none 0 0 := C
  show V X _ h 0 [some (.ref 80), some (.int a1), some (.int a2), some (.int a3)] []
  unfold F_X1_weigh at hyp
  refine V_aload_n (pc := 0) C dX1_weigh_0 rfl ?_
  refine V_getR (pc := 1) C dX1_weigh_1 lf_X1_9 fk_80_0 ?_
  refine V_iload_n (pc := 4) C dX1_weigh_4 rfl ?_
  obtain ⟨g1, hyp⟩ := gd_n hyp
  refine V_iald (pc := 5) C dX1_weigh_5 ak_81 g1 ?_
  refine V_iconst (pc := 6) C dX1_weigh_6 (v := -1) (by decide) ?_
  refine V_icmp_eq (pc := 7) C dX1_weigh_7 (tgt := 20) (by decide) (fun q2 => ?_) (fun q2 => ?_)
  · replace hyp := (if_pos q2).symm.trans hyp
    refine V_weak (lv' := [some (.ref 80), some (.int a1), some (.int a2), some (.int a3)]) (lvle_s (lvle_s (lvle_s (lvle_s lvle_0)))) ?_
    exact (T_X1_weigh_b20 C) a1 a2 a3 h hyp
  · replace hyp := (if_neg q2).symm.trans hyp
    refine V_iload_n (pc := 10) C dX1_weigh_10 rfl ?_
    refine V_aload_n (pc := 11) C dX1_weigh_11 rfl ?_
    refine V_getR (pc := 12) C dX1_weigh_12 lf_X1_9 fk_80_0 ?_
    refine V_iload_n (pc := 15) C dX1_weigh_15 rfl ?_
    obtain ⟨g3, hyp⟩ := gd_n hyp
    refine V_iald (pc := 16) C dX1_weigh_16 ak_81 g3 ?_
    refine V_icmp_ge (pc := 17) C dX1_weigh_17 (tgt := 34) (by decide) (fun q4 => ?_) (fun q4 => ?_)
    · replace hyp := (if_pos q4).symm.trans hyp
      cases hyp
      exact V_vret C dX1_weigh_34
    · replace hyp := (if_neg q4).symm.trans hyp
      refine V_weak (lv' := [some (.ref 80), some (.int a1), some (.int a2), some (.int a3)]) (lvle_s (lvle_s (lvle_s (lvle_s lvle_0)))) ?_
      exact (T_X1_weigh_b20 C) a1 a2 a3 h hyp
theorem dX1_weighAll_0 : decode cX1_weighAll 0 = .ok (.aload_n 0, 1) := by decide +kernel
theorem dX1_weighAll_1 : decode cX1_weighAll 1 = .ok (.getfield 18, 3) := by decide +kernel
theorem dX1_weighAll_4 : decode cX1_weighAll 4 = .ok (.aload_n 0, 1) := by decide +kernel
theorem dX1_weighAll_5 : decode cX1_weighAll 5 = .ok (.getfield 22, 3) := by decide +kernel
theorem dX1_weighAll_8 : decode cX1_weighAll 8 = .ok (.getfield 35, 3) := by decide +kernel
theorem dX1_weighAll_11 : decode cX1_weighAll 11 = .ok (.if_icmp .eq 15, 3) := by decide +kernel
theorem dX1_weighAll_14 : decode cX1_weighAll 14 = .ok (.aload_n 0, 1) := by decide +kernel
theorem dX1_weighAll_15 : decode cX1_weighAll 15 = .ok (.getfield 22, 3) := by decide +kernel
theorem dX1_weighAll_18 : decode cX1_weighAll 18 = .ok (.getfield 40, 3) := by decide +kernel
theorem dX1_weighAll_21 : decode cX1_weighAll 21 = .ok (.bipush 8, 2) := by decide +kernel
theorem dX1_weighAll_23 : decode cX1_weighAll 23 = .ok (.if_icmp .le 4, 3) := by decide +kernel
theorem dX1_weighAll_26 : decode cX1_weighAll 26 = .ok (.return_, 1) := by decide +kernel
theorem dX1_weighAll_27 : decode cX1_weighAll 27 = .ok (.aload_n 0, 1) := by decide +kernel
theorem dX1_weighAll_28 : decode cX1_weighAll 28 = .ok (.aload_n 0, 1) := by decide +kernel
theorem dX1_weighAll_29 : decode cX1_weighAll 29 = .ok (.getfield 22, 3) := by decide +kernel
theorem dX1_weighAll_32 : decode cX1_weighAll 32 = .ok (.getfield 35, 3) := by decide +kernel
theorem dX1_weighAll_35 : decode cX1_weighAll 35 = .ok (.putfield 18, 3) := by decide +kernel
theorem dX1_weighAll_38 : decode cX1_weighAll 38 = .ok (.aload_n 0, 1) := by decide +kernel
theorem dX1_weighAll_39 : decode cX1_weighAll 39 = .ok (.getfield 9, 3) := by decide +kernel
theorem dX1_weighAll_42 : decode cX1_weighAll 42 = .ok (.iconst (-1), 1) := by decide +kernel
theorem dX1_weighAll_43 : decode cX1_weighAll 43 = .ok (.invokestatic 43, 3) := by decide +kernel
theorem dX1_weighAll_46 : decode cX1_weighAll 46 = .ok (.aload_n 0, 1) := by decide +kernel
theorem dX1_weighAll_47 : decode cX1_weighAll 47 = .ok (.getfield 15, 3) := by decide +kernel
theorem dX1_weighAll_50 : decode cX1_weighAll 50 = .ok (.iconst (-1), 1) := by decide +kernel
theorem dX1_weighAll_51 : decode cX1_weighAll 51 = .ok (.invokestatic 43, 3) := by decide +kernel
theorem dX1_weighAll_54 : decode cX1_weighAll 54 = .ok (.aload_n 0, 1) := by decide +kernel
theorem dX1_weighAll_55 : decode cX1_weighAll 55 = .ok (.getfield 22, 3) := by decide +kernel
theorem dX1_weighAll_58 : decode cX1_weighAll 58 = .ok (.getfield 49, 3) := by decide +kernel
theorem dX1_weighAll_61 : decode cX1_weighAll 61 = .ok (.iconst 2, 1) := by decide +kernel
theorem dX1_weighAll_62 : decode cX1_weighAll 62 = .ok (.if_icmp .ne 15, 3) := by decide +kernel
theorem dX1_weighAll_65 : decode cX1_weighAll 65 = .ok (.iconst 1, 1) := by decide +kernel
theorem dX1_weighAll_66 : decode cX1_weighAll 66 = .ok (.aload_n 0, 1) := by decide +kernel
theorem dX1_weighAll_67 : decode cX1_weighAll 67 = .ok (.getfield 22, 3) := by decide +kernel
theorem dX1_weighAll_70 : decode cX1_weighAll 70 = .ok (.getfield 40, 3) := by decide +kernel
theorem dX1_weighAll_73 : decode cX1_weighAll 73 = .ok (.ishl, 1) := by decide +kernel
theorem dX1_weighAll_74 : decode cX1_weighAll 74 = .ok (.goto 4, 3) := by decide +kernel
theorem dX1_weighAll_77 : decode cX1_weighAll 77 = .ok (.iconst 1, 1) := by decide +kernel
theorem dX1_weighAll_78 : decode cX1_weighAll 78 = .ok (.istore_n 1, 1) := by decide +kernel
theorem dX1_weighAll_79 : decode cX1_weighAll 79 = .ok (.iconst 0, 1) := by decide +kernel
theorem dX1_weighAll_80 : decode cX1_weighAll 80 = .ok (.istore_n 2, 1) := by decide +kernel
theorem dX1_weighAll_81 : decode cX1_weighAll 81 = .ok (.iload_n 2, 1) := by decide +kernel
theorem dX1_weighAll_82 : decode cX1_weighAll 82 = .ok (.iload_n 1, 1) := by decide +kernel
theorem dX1_weighAll_83 : decode cX1_weighAll 83 = .ok (.if_icmp .ge 75, 3) := by decide +kernel
theorem dX1_weighAll_86 : decode cX1_weighAll 86 = .ok (.aload_n 0, 1) := by decide +kernel
theorem dX1_weighAll_87 : decode cX1_weighAll 87 = .ok (.getfield 31, 3) := by decide +kernel
theorem dX1_weighAll_90 : decode cX1_weighAll 90 = .ok (.iload_n 2, 1) := by decide +kernel
theorem dX1_weighAll_91 : decode cX1_weighAll 91 = .ok (.invokevirtual 52, 3) := by decide +kernel
theorem dX1_weighAll_94 : decode cX1_weighAll 94 = .ok (.aload_n 0, 1) := by decide +kernel
theorem dX1_weighAll_95 : decode cX1_weighAll 95 = .ok (.iconst 0, 1) := by decide +kernel
theorem dX1_weighAll_96 : decode cX1_weighAll 96 = .ok (.aload_n 0, 1) := by decide +kernel
theorem dX1_weighAll_97 : decode cX1_weighAll 97 = .ok (.getfield 31, 3) := by decide +kernel
theorem dX1_weighAll_100 : decode cX1_weighAll 100 = .ok (.invokevirtual 56, 3) := by decide +kernel
theorem dX1_weighAll_103 : decode cX1_weighAll 103 = .ok (.iload_n 2, 1) := by decide +kernel
theorem dX1_weighAll_104 : decode cX1_weighAll 104 = .ok (.invokevirtual 60, 3) := by decide +kernel
theorem dX1_weighAll_107 : decode cX1_weighAll 107 = .ok (.aload_n 0, 1) := by decide +kernel
theorem dX1_weighAll_108 : decode cX1_weighAll 108 = .ok (.iconst 1, 1) := by decide +kernel
theorem dX1_weighAll_109 : decode cX1_weighAll 109 = .ok (.aload_n 0, 1) := by decide +kernel
theorem dX1_weighAll_110 : decode cX1_weighAll 110 = .ok (.getfield 31, 3) := by decide +kernel
theorem dX1_weighAll_113 : decode cX1_weighAll 113 = .ok (.getfield 64, 3) := by decide +kernel
theorem dX1_weighAll_116 : decode cX1_weighAll 116 = .ok (.aload_n 0, 1) := by decide +kernel
theorem dX1_weighAll_117 : decode cX1_weighAll 117 = .ok (.getfield 31, 3) := by decide +kernel
theorem dX1_weighAll_120 : decode cX1_weighAll 120 = .ok (.invokevirtual 67, 3) := by decide +kernel
theorem dX1_weighAll_123 : decode cX1_weighAll 123 = .ok (.iaload, 1) := by decide +kernel
theorem dX1_weighAll_124 : decode cX1_weighAll 124 = .ok (.iload_n 2, 1) := by decide +kernel
theorem dX1_weighAll_125 : decode cX1_weighAll 125 = .ok (.invokevirtual 60, 3) := by decide +kernel
theorem dX1_weighAll_128 : decode cX1_weighAll 128 = .ok (.aload_n 0, 1) := by decide +kernel
theorem dX1_weighAll_129 : decode cX1_weighAll 129 = .ok (.getfield 31, 3) := by decide +kernel
theorem dX1_weighAll_132 : decode cX1_weighAll 132 = .ok (.getfield 70, 3) := by decide +kernel
theorem dX1_weighAll_135 : decode cX1_weighAll 135 = .ok (.iconst (-1), 1) := by decide +kernel
theorem dX1_weighAll_136 : decode cX1_weighAll 136 = .ok (.if_icmp .eq 16, 3) := by decide +kernel
theorem dX1_weighAll_139 : decode cX1_weighAll 139 = .ok (.aload_n 0, 1) := by decide +kernel
theorem dX1_weighAll_140 : decode cX1_weighAll 140 = .ok (.iconst 2, 1) := by decide +kernel
theorem dX1_weighAll_141 : decode cX1_weighAll 141 = .ok (.aload_n 0, 1) := by decide +kernel
theorem dX1_weighAll_142 : decode cX1_weighAll 142 = .ok (.getfield 31, 3) := by decide +kernel
theorem dX1_weighAll_145 : decode cX1_weighAll 145 = .ok (.getfield 70, 3) := by decide +kernel
theorem dX1_weighAll_148 : decode cX1_weighAll 148 = .ok (.iload_n 2, 1) := by decide +kernel
theorem dX1_weighAll_149 : decode cX1_weighAll 149 = .ok (.invokevirtual 60, 3) := by decide +kernel
theorem dX1_weighAll_152 : decode cX1_weighAll 152 = .ok (.iinc 2 1, 3) := by decide +kernel
theorem dX1_weighAll_155 : decode cX1_weighAll 155 = .ok (.goto (-74), 3) := by decide +kernel
theorem dX1_weighAll_158 : decode cX1_weighAll 158 = .ok (.return_, 1) := by decide +kernel
def F_X1_weighAll_b152 (N : Nat) (rc81 : Int32 → Int32 → PH → Option PH) (x1 : Int32) (x2 : Int32) (h : PH) : Option PH :=
  ib (x2 + (1 : Int32)) fun v1 =>
  rc81 x1 v1 h
set_option maxRecDepth 20000 in
set_option maxHeartbeats 4000000 in
theorem T_X1_weighAll_b152 {X : CT} (C : CX X 103 cX1_weighAll 3 RX1 none 6 145) {h0 : PH} {N : Nat} {rc81 : Int32 → Int32 → PH → Option PH} (hr81 : ∀ (x1 : Int32) (x2 : Int32) (h : PH), rc81 x1 x2 h = some h0 → V X (QV X h0) h 81 [some (.ref 80), some (.int x1), some (.int x2)] []) : ∀ (x1 : Int32) (x2 : Int32) (h : PH), F_X1_weighAll_b152 N rc81 x1 x2 h = some h0 → V X (QV X h0) h 152 [some (.ref 80), some (.int x1), some (.int x2)] [] := by
  intro x1 x2 h hyp
  unfold F_X1_weighAll_b152 at hyp
  obtain ⟨v1, ev1, hyp⟩ := ib_n hyp
  refine V_iinc (pc := 152) C dX1_weighAll_152 (v := v1) rfl (by rw [ev1]; rfl) (by decide) rfl ?_
  refine V_goto (pc := 155) C dX1_weighAll_155 (tgt := 81) (by decide) ?_
  refine V_weak (lv' := [some (.ref 80), some (.int x1), some (.int v1)]) (lvle_s (lvle_s (lvle_s lvle_0))) ?_
  exact hr81 x1 v1 h hyp
def F_X1_weighAll_b81 (N : Nat) : Nat → Int32 → Int32 → PH → Option PH
  | 0, _, _, _ => none
  | n + 1, x1, x2, h =>
    if x1 ≤ x2 then
      some h
    else
      bV (F_X10_simulate N 83 x2 h) fun h3 =>
      bI (F_X10_sumOfWaits N 83 h3) fun r4 h5 =>
      bV (F_X1_weigh (0 : Int32) r4 x2 h5) fun h7 =>
      bI (F_X10_longestWaiter N 83 h7) fun r8 h9 =>
      if inb r8 24 = true then
      bV (F_X1_weigh (1 : Int32) (h9.1 87 r8.toNatClampNeg) x2 h9) fun h12 =>
      if (h12.1 83 8) = (-1 : Int32) then
        F_X1_weighAll_b152 N (F_X1_weighAll_b81 N n) x1 x2 h12
      else
        bV (F_X1_weigh (2 : Int32) (h12.1 83 8) x2 h12) fun h15 =>
        F_X1_weighAll_b152 N (F_X1_weighAll_b81 N n) x1 x2 h15
      else none
set_option maxRecDepth 20000 in
set_option maxHeartbeats 4000000 in
theorem T_X1_weighAll_b81 {X : CT} (C : CX X 103 cX1_weighAll 3 RX1 none 6 145) {h0 : PH} {N : Nat} : ∀ (n : Nat) (x1 : Int32) (x2 : Int32) (h : PH), F_X1_weighAll_b81 N n x1 x2 h = some h0 → V X (QV X h0) h 81 [some (.ref 80), some (.int x1), some (.int x2)] [] := by
  intro n
  induction n with
  | zero =>
    intro x1 x2 h hyp
    cases hyp
  | succ n ih =>
    intro x1 x2 h hyp
    unfold F_X1_weighAll_b81 at hyp
    refine V_iload_n (pc := 81) C dX1_weighAll_81 rfl ?_
    refine V_iload_n (pc := 82) C dX1_weighAll_82 rfl ?_
    refine V_icmp_ge (pc := 83) C dX1_weighAll_83 (tgt := 158) (by decide) (fun q1 => ?_) (fun q1 => ?_)
    · replace hyp := (if_pos q1).symm.trans hyp
      cases hyp
      exact V_vret C dX1_weighAll_158
    · replace hyp := (if_neg q1).symm.trans hyp
      refine V_aload_n (pc := 86) C dX1_weighAll_86 rfl ?_
      refine V_getR (pc := 87) C dX1_weighAll_87 lf_X1_31 fk_80_3 ?_
      refine V_iload_n (pc := 90) C dX1_weighAll_90 rfl ?_
      obtain ⟨h3, eh3, hyp⟩ := bV_n hyp
      refine V_callV (pc := 91) C dX1_weighAll_91 lm_X1_52 mk_X10_simulate ok_83 rfl (M_X10_simulate _ isT_83 eh3) rfl pd_X10_simulate (by decide) (by decide) (by decide) (As := [.int x2]) (rest := []) rfl (Nat.le_of_ble_eq_true rfl) ?_
      refine V_aload_n (pc := 94) C dX1_weighAll_94 rfl ?_
      refine V_iconst (pc := 95) C dX1_weighAll_95 (v := 0) (by decide) ?_
      refine V_aload_n (pc := 96) C dX1_weighAll_96 rfl ?_
      refine V_getR (pc := 97) C dX1_weighAll_97 lf_X1_31 fk_80_3 ?_
      obtain ⟨r4, h5, eh5, hyp⟩ := bI_n hyp
      refine V_callI (pc := 100) C dX1_weighAll_100 lm_X1_56 mk_X10_sumOfWaits ok_83 rfl (M_X10_sumOfWaits _ isT_83 eh5) rfl pd_X10_sumOfWaits (by decide) (by decide) (by decide) (As := []) (rest := [.int (0 : Int32), .ref 80]) rfl (Nat.le_of_ble_eq_true rfl) ?_
      refine V_iload_n (pc := 103) C dX1_weighAll_103 rfl ?_
      obtain ⟨h7, eh7, hyp⟩ := bV_n hyp
      refine V_callV (pc := 104) C dX1_weighAll_104 lm_X1_60 mk_X1_weigh ok_80 rfl (M_X1_weigh _ eh7) rfl pd_X1_weigh (by decide) (by decide) (by decide) (As := [.int (0 : Int32), .int r4, .int x2]) (rest := []) rfl (Nat.le_of_ble_eq_true rfl) ?_
      refine V_aload_n (pc := 107) C dX1_weighAll_107 rfl ?_
      refine V_iconst (pc := 108) C dX1_weighAll_108 (v := 1) (by decide) ?_
      refine V_aload_n (pc := 109) C dX1_weighAll_109 rfl ?_
      refine V_getR (pc := 110) C dX1_weighAll_110 lf_X1_31 fk_80_3 ?_
      refine V_getR (pc := 113) C dX1_weighAll_113 lf_X1_64 fk_83_3 ?_
      refine V_aload_n (pc := 116) C dX1_weighAll_116 rfl ?_
      refine V_getR (pc := 117) C dX1_weighAll_117 lf_X1_31 fk_80_3 ?_
      obtain ⟨r8, h9, eh9, hyp⟩ := bI_n hyp
      refine V_callI (pc := 120) C dX1_weighAll_120 lm_X1_67 mk_X10_longestWaiter ok_83 rfl (M_X10_longestWaiter _ isT_83 eh9) rfl pd_X10_longestWaiter (by decide) (by decide) (by decide) (As := []) (rest := [.ref 87, .int (1 : Int32), .ref 80]) rfl (Nat.le_of_ble_eq_true rfl) ?_
      obtain ⟨g10, hyp⟩ := gd_n hyp
      refine V_iald (pc := 123) C dX1_weighAll_123 ak_87 g10 ?_
      refine V_iload_n (pc := 124) C dX1_weighAll_124 rfl ?_
      obtain ⟨h12, eh12, hyp⟩ := bV_n hyp
      refine V_callV (pc := 125) C dX1_weighAll_125 lm_X1_60 mk_X1_weigh ok_80 rfl (M_X1_weigh _ eh12) rfl pd_X1_weigh (by decide) (by decide) (by decide) (As := [.int (1 : Int32), .int (h9.1 87 r8.toNatClampNeg), .int x2]) (rest := []) rfl (Nat.le_of_ble_eq_true rfl) ?_
      refine V_aload_n (pc := 128) C dX1_weighAll_128 rfl ?_
      refine V_getR (pc := 129) C dX1_weighAll_129 lf_X1_31 fk_80_3 ?_
      refine V_getI (pc := 132) C dX1_weighAll_132 lf_X1_70 fk_83_8 ?_
      refine V_iconst (pc := 135) C dX1_weighAll_135 (v := -1) (by decide) ?_
      refine V_icmp_eq (pc := 136) C dX1_weighAll_136 (tgt := 152) (by decide) (fun q13 => ?_) (fun q13 => ?_)
      · replace hyp := (if_pos q13).symm.trans hyp
        refine V_weak (lv' := [some (.ref 80), some (.int x1), some (.int x2)]) (lvle_s (lvle_s (lvle_s lvle_0))) ?_
        exact (T_X1_weighAll_b152 C ih) x1 x2 h12 hyp
      · replace hyp := (if_neg q13).symm.trans hyp
        refine V_aload_n (pc := 139) C dX1_weighAll_139 rfl ?_
        refine V_iconst (pc := 140) C dX1_weighAll_140 (v := 2) (by decide) ?_
        refine V_aload_n (pc := 141) C dX1_weighAll_141 rfl ?_
        refine V_getR (pc := 142) C dX1_weighAll_142 lf_X1_31 fk_80_3 ?_
        refine V_getI (pc := 145) C dX1_weighAll_145 lf_X1_70 fk_83_8 ?_
        refine V_iload_n (pc := 148) C dX1_weighAll_148 rfl ?_
        obtain ⟨h15, eh15, hyp⟩ := bV_n hyp
        refine V_callV (pc := 149) C dX1_weighAll_149 lm_X1_60 mk_X1_weigh ok_80 rfl (M_X1_weigh _ eh15) rfl pd_X1_weigh (by decide) (by decide) (by decide) (As := [.int (2 : Int32), .int (h12.1 83 8), .int x2]) (rest := []) rfl (Nat.le_of_ble_eq_true rfl) ?_
        refine V_weak (lv' := [some (.ref 80), some (.int x1), some (.int x2)]) (lvle_s (lvle_s (lvle_s lvle_0))) ?_
        exact (T_X1_weighAll_b152 C ih) x1 x2 h15 hyp
def F_X1_weighAll_b78 (N : Nat) (s0 : Int32) (h : PH) : Option PH :=
  F_X1_weighAll_b81 N N s0 (0 : Int32) h
set_option maxRecDepth 20000 in
set_option maxHeartbeats 4000000 in
theorem T_X1_weighAll_b78 {X : CT} (C : CX X 103 cX1_weighAll 3 RX1 none 6 145) {h0 : PH} {N : Nat} : ∀ (s0 : Int32) (h : PH), F_X1_weighAll_b78 N s0 h = some h0 → V X (QV X h0) h 78 [some (.ref 80), none, none] [.int s0] := by
  intro s0 h hyp
  unfold F_X1_weighAll_b78 at hyp
  refine V_istore_n (pc := 78) C dX1_weighAll_78 (by decide) rfl ?_
  refine V_iconst (pc := 79) C dX1_weighAll_79 (v := 0) (by decide) ?_
  refine V_istore_n (pc := 80) C dX1_weighAll_80 (by decide) rfl ?_
  refine V_weak (lv' := [some (.ref 80), some (.int s0), some (.int (0 : Int32))]) (lvle_s (lvle_s (lvle_s lvle_0))) ?_
  exact (T_X1_weighAll_b81 C) N s0 (0 : Int32) h hyp
def F_X1_weighAll (N : Nat) (h : PH) : Option PH :=
  if (h.1 80 4) = (h.1 51 15) then
    some h
  else
    if (h.1 51 12) ≤ (8 : Int32) then
      hb (hs h 80 4 (h.1 51 15)) fun h3 =>
      hb (hfill h3 81 3 (-1 : Int32)) fun h4 =>
      hb (hfill h4 82 3 (-1 : Int32)) fun h5 =>
      if (h5.1 51 8) = (2 : Int32) then
        F_X1_weighAll_b78 N ((1 : Int32) <<< ((h5.1 51 12) &&& 31)) h5
      else
        F_X1_weighAll_b78 N (1 : Int32) h5
    else
      some h
set_option maxRecDepth 20000 in
set_option maxHeartbeats 4000000 in
theorem M_X1_weighAll (E : EV) {N : Nat} {h h2 : PH} (hyp : F_X1_weighAll N  h = some h2) : MV E 103 yX1_weighAll cX1_weighAll 3 none 6 145 [.ref 80] h h2 := by
  refine MV.of 2 (by decide) rfl (fun X e1 C => ?_)
  subst e1
  replace C : CX X 103 cX1_weighAll 3 RX1 none 6 145 := C
  show V X _ h 0 [some (.ref 80), none, none] []
  unfold F_X1_weighAll at hyp
  refine V_aload_n (pc := 0) C dX1_weighAll_0 rfl ?_
  refine V_getI (pc := 1) C dX1_weighAll_1 lf_X1_18 fk_80_4 ?_
  refine V_aload_n (pc := 4) C dX1_weighAll_4 rfl ?_
  refine V_getR (pc := 5) C dX1_weighAll_5 lf_X1_22 fk_80_2 ?_
  refine V_getI (pc := 8) C dX1_weighAll_8 lf_X1_35 fk_51_15 ?_
  refine V_icmp_eq (pc := 11) C dX1_weighAll_11 (tgt := 26) (by decide) (fun q1 => ?_) (fun q1 => ?_)
  · replace hyp := (if_pos q1).symm.trans hyp
    cases hyp
    exact V_vret C dX1_weighAll_26
  · replace hyp := (if_neg q1).symm.trans hyp
    refine V_aload_n (pc := 14) C dX1_weighAll_14 rfl ?_
    refine V_getR (pc := 15) C dX1_weighAll_15 lf_X1_22 fk_80_2 ?_
    refine V_getI (pc := 18) C dX1_weighAll_18 lf_X1_40 fk_51_12 ?_
    refine V_bipush (pc := 21) C dX1_weighAll_21 (v := 8) (by decide) ?_
    refine V_icmp_le (pc := 23) C dX1_weighAll_23 (tgt := 27) (by decide) (fun q2 => ?_) (fun q2 => ?_)
    · replace hyp := (if_pos q2).symm.trans hyp
      refine V_aload_n (pc := 27) C dX1_weighAll_27 rfl ?_
      refine V_aload_n (pc := 28) C dX1_weighAll_28 rfl ?_
      refine V_getR (pc := 29) C dX1_weighAll_29 lf_X1_22 fk_80_2 ?_
      refine V_getI (pc := 32) C dX1_weighAll_32 lf_X1_35 fk_51_15 ?_
      obtain ⟨h3, eh3, hyp⟩ := hb_n hyp
      refine V_putI (pc := 35) C dX1_weighAll_35 lf_X1_18 fk_80_4 rfl rfl eh3 ?_
      refine V_aload_n (pc := 38) C dX1_weighAll_38 rfl ?_
      refine V_getR (pc := 39) C dX1_weighAll_39 lf_X1_9 fk_80_0 ?_
      refine V_iconst (pc := 42) C dX1_weighAll_42 (v := -1) (by decide) ?_
      obtain ⟨h4, eh4, hyp⟩ := hb_n hyp
      refine V_statV (pc := 43) C dX1_weighAll_43 lm_X1_43 ms_J7_fill_53178 (M_fill _ ak_81 (by decide) eh4) rfl pd_J7_fill_53178 (by decide) (by decide) (by decide) (rest := []) rfl (Nat.le_of_ble_eq_true rfl) ?_
      refine V_aload_n (pc := 46) C dX1_weighAll_46 rfl ?_
      refine V_getR (pc := 47) C dX1_weighAll_47 lf_X1_15 fk_80_1 ?_
      refine V_iconst (pc := 50) C dX1_weighAll_50 (v := -1) (by decide) ?_
      obtain ⟨h5, eh5, hyp⟩ := hb_n hyp
      refine V_statV (pc := 51) C dX1_weighAll_51 lm_X1_43 ms_J7_fill_53178 (M_fill _ ak_82 (by decide) eh5) rfl pd_J7_fill_53178 (by decide) (by decide) (by decide) (rest := []) rfl (Nat.le_of_ble_eq_true rfl) ?_
      refine V_aload_n (pc := 54) C dX1_weighAll_54 rfl ?_
      refine V_getR (pc := 55) C dX1_weighAll_55 lf_X1_22 fk_80_2 ?_
      refine V_getI (pc := 58) C dX1_weighAll_58 lf_X1_49 fk_51_8 ?_
      refine V_iconst (pc := 61) C dX1_weighAll_61 (v := 2) (by decide) ?_
      refine V_icmp_ne (pc := 62) C dX1_weighAll_62 (tgt := 77) (by decide) (fun q6 => ?_) (fun q6 => ?_)
      · replace hyp := (if_neg q6).symm.trans hyp
        refine V_iconst (pc := 77) C dX1_weighAll_77 (v := 1) (by decide) ?_
        refine V_weak (lv' := [some (.ref 80), none, none]) (lvle_s (lvle_n (lvle_n lvle_0))) ?_
        exact (T_X1_weighAll_b78 C) (1 : Int32) h5 hyp
      · replace hyp := (if_pos q6).symm.trans hyp
        refine V_iconst (pc := 65) C dX1_weighAll_65 (v := 1) (by decide) ?_
        refine V_aload_n (pc := 66) C dX1_weighAll_66 rfl ?_
        refine V_getR (pc := 67) C dX1_weighAll_67 lf_X1_22 fk_80_2 ?_
        refine V_getI (pc := 70) C dX1_weighAll_70 lf_X1_40 fk_51_12 ?_
        refine V_ishl (pc := 73) C dX1_weighAll_73 ?_
        refine V_goto (pc := 74) C dX1_weighAll_74 (tgt := 78) (by decide) ?_
        refine V_weak (lv' := [some (.ref 80), none, none]) (lvle_s (lvle_n (lvle_n lvle_0))) ?_
        exact (T_X1_weighAll_b78 C) ((1 : Int32) <<< ((h5.1 51 12) &&& 31)) h5 hyp
    · replace hyp := (if_neg q2).symm.trans hyp
      cases hyp
      exact V_vret C dX1_weighAll_26
