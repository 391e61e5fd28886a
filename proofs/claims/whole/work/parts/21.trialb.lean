theorem dX10_stopsHere_0 : decode cX10_stopsHere 0 = .ok (.aload_n 0, 1) := by decide +kernel
theorem dX10_stopsHere_1 : decode cX10_stopsHere 1 = .ok (.getfield 32, 3) := by decide +kernel
theorem dX10_stopsHere_4 : decode cX10_stopsHere 4 = .ok (.iload_n 1, 1) := by decide +kernel
theorem dX10_stopsHere_5 : decode cX10_stopsHere 5 = .ok (.iaload, 1) := by decide +kernel
theorem dX10_stopsHere_6 : decode cX10_stopsHere 6 = .ok (.istore_n 2, 1) := by decide +kernel
theorem dX10_stopsHere_7 : decode cX10_stopsHere 7 = .ok (.aload_n 0, 1) := by decide +kernel
theorem dX10_stopsHere_8 : decode cX10_stopsHere 8 = .ok (.getfield 41, 3) := by decide +kernel
theorem dX10_stopsHere_11 : decode cX10_stopsHere 11 = .ok (.iload_n 1, 1) := by decide +kernel
theorem dX10_stopsHere_12 : decode cX10_stopsHere 12 = .ok (.iaload, 1) := by decide +kernel
theorem dX10_stopsHere_13 : decode cX10_stopsHere 13 = .ok (.aload_n 0, 1) := by decide +kernel
theorem dX10_stopsHere_14 : decode cX10_stopsHere 14 = .ok (.getfield 50, 3) := by decide +kernel
theorem dX10_stopsHere_17 : decode cX10_stopsHere 17 = .ok (.iload_n 2, 1) := by decide +kernel
theorem dX10_stopsHere_18 : decode cX10_stopsHere 18 = .ok (.iaload, 1) := by decide +kernel
theorem dX10_stopsHere_19 : decode cX10_stopsHere 19 = .ok (.iand, 1) := by decide +kernel
theorem dX10_stopsHere_20 : decode cX10_stopsHere 20 = .ok (.ifCond .ne 27, 3) := by decide +kernel
theorem dX10_stopsHere_23 : decode cX10_stopsHere 23 = .ok (.aload_n 0, 1) := by decide +kernel
theorem dX10_stopsHere_24 : decode cX10_stopsHere 24 = .ok (.getfield 44, 3) := by decide +kernel
theorem dX10_stopsHere_27 : decode cX10_stopsHere 27 = .ok (.iload_n 1, 1) := by decide +kernel
theorem dX10_stopsHere_28 : decode cX10_stopsHere 28 = .ok (.iaload, 1) := by decide +kernel
theorem dX10_stopsHere_29 : decode cX10_stopsHere 29 = .ok (.aload_n 0, 1) := by decide +kernel
theorem dX10_stopsHere_30 : decode cX10_stopsHere 30 = .ok (.getfield 47, 3) := by decide +kernel
theorem dX10_stopsHere_33 : decode cX10_stopsHere 33 = .ok (.iload_n 2, 1) := by decide +kernel
theorem dX10_stopsHere_34 : decode cX10_stopsHere 34 = .ok (.iaload, 1) := by decide +kernel
theorem dX10_stopsHere_35 : decode cX10_stopsHere 35 = .ok (.iand, 1) := by decide +kernel
theorem dX10_stopsHere_36 : decode cX10_stopsHere 36 = .ok (.ifCond .eq 15, 3) := by decide +kernel
theorem dX10_stopsHere_39 : decode cX10_stopsHere 39 = .ok (.aload_n 0, 1) := by decide +kernel
theorem dX10_stopsHere_40 : decode cX10_stopsHere 40 = .ok (.iload_n 1, 1) := by decide +kernel
theorem dX10_stopsHere_41 : decode cX10_stopsHere 41 = .ok (.invokevirtual 150, 3) := by decide +kernel
theorem dX10_stopsHere_44 : decode cX10_stopsHere 44 = .ok (.ifCond .eq 7, 3) := by decide +kernel
theorem dX10_stopsHere_47 : decode cX10_stopsHere 47 = .ok (.iconst 1, 1) := by decide +kernel
theorem dX10_stopsHere_48 : decode cX10_stopsHere 48 = .ok (.goto 4, 3) := by decide +kernel
theorem dX10_stopsHere_51 : decode cX10_stopsHere 51 = .ok (.iconst 0, 1) := by decide +kernel
theorem dX10_stopsHere_52 : decode cX10_stopsHere 52 = .ok (.ireturn, 1) := by decide +kernel
def F_X10_stopsHere_b47 (o : Nat) (h : PH) : Option (Int32 × PH) :=
  some ((1 : Int32), h)
set_option maxRecDepth 20000 in
set_option maxHeartbeats 4000000 in
theorem T_X10_stopsHere_b47 {X : CT} (C : CX X 103 cX10_stopsHere 3 RX10 (some .boolean) 2 41) {r0 : Int32} {h0 : PH} {o : Nat} (ho : IST o) : ∀ (h : PH), F_X10_stopsHere_b47 o  h = some (r0, h0) → V X (QI X r0 h0) h 47 [none, none, none] [] := by
  intro  h hyp
  unfold F_X10_stopsHere_b47 at hyp
  refine V_iconst (pc := 47) C dX10_stopsHere_47 (v := 1) (by decide) ?_
  refine V_goto (pc := 48) C dX10_stopsHere_48 (tgt := 52) (by decide) ?_
  cases hyp
  exact V_zret C dX10_stopsHere_52 rfl
def F_X10_stopsHere_b51 (o : Nat) (h : PH) : Option (Int32 × PH) :=
  some ((0 : Int32), h)
set_option maxRecDepth 20000 in
set_option maxHeartbeats 4000000 in
theorem T_X10_stopsHere_b51 {X : CT} (C : CX X 103 cX10_stopsHere 3 RX10 (some .boolean) 2 41) {r0 : Int32} {h0 : PH} {o : Nat} (ho : IST o) : ∀ (h : PH), F_X10_stopsHere_b51 o  h = some (r0, h0) → V X (QI X r0 h0) h 51 [none, none, none] [] := by
  intro  h hyp
  unfold F_X10_stopsHere_b51 at hyp
  refine V_iconst (pc := 51) C dX10_stopsHere_51 (v := 0) (by decide) ?_
  cases hyp
  exact V_zret C dX10_stopsHere_52 rfl
def F_X10_stopsHere (o : Nat) (a1 : Int32) (h : PH) : Option (Int32 × PH) :=
  if inb a1 2 = true then
  ib (h.1 (o + 9) a1.toNatClampNeg) fun v2 =>
  if inb v2 6 = true then
  if ((h.1 (o + 12) a1.toNatClampNeg) &&& (h.1 (o + 15) v2.toNatClampNeg)) = 0 then
    if inb a1 2 = true then
    if inb v2 6 = true then
    if ((h.1 (o + 13) a1.toNatClampNeg) &&& (h.1 (o + 14) v2.toNatClampNeg)) = 0 then
      F_X10_stopsHere_b51 o  h
    else
      bI (F_X10_hasRoom o a1 h) fun r8 h9 =>
      if r8 = 0 then
        F_X10_stopsHere_b51 o  h9
      else
        F_X10_stopsHere_b47 o  h9
    else none
    else none
  else
    F_X10_stopsHere_b47 o  h
  else none
  else none
set_option maxRecDepth 20000 in
set_option maxHeartbeats 4000000 in
theorem M_X10_stopsHere (E : EV) {o : Nat} {a1 : Int32} (ho : IST o) {r : Int32} {h h2 : PH} (hyp : F_X10_stopsHere o a1 h = some (r, h2)) : MI E 103 yX10_stopsHere cX10_stopsHere 3 (some .boolean) 2 41 [.ref o, .int a1] h r h2 := by
  refine MI.of 1 (by decide) rfl (fun X e1 C => ?_)
  subst e1
  replace C : CX X 103 cX10_stopsHere 3 RX10 (some .boolean) 2 41 := C
  show V X _ h 0 [some (.ref o), some (.int a1), none] []
  unfold F_X10_stopsHere at hyp
  refine V_aload_n (pc := 0) C dX10_stopsHere_0 rfl ?_
  refine V_getR (pc := 1) C dX10_stopsHere_1 lf_X10_32 (fkT_10 ho) ?_
  refine V_iload_n (pc := 4) C dX10_stopsHere_4 rfl ?_
  obtain ⟨g1, hyp⟩ := gd_n hyp
  refine V_iald (pc := 5) C dX10_stopsHere_5 (akT_9 ho) g1 ?_
  obtain ⟨v2, ev2, hyp⟩ := ib_n hyp
  refine V_topI ev2 ?_
  refine V_istore_n (pc := 6) C dX10_stopsHere_6 (by decide) rfl ?_
  refine V_aload_n (pc := 7) C dX10_stopsHere_7 rfl ?_
  refine V_getR (pc := 8) C dX10_stopsHere_8 lf_X10_41 (fkT_13 ho) ?_
  refine V_iload_n (pc := 11) C dX10_stopsHere_11 rfl ?_
  refine V_iald (pc := 12) C dX10_stopsHere_12 (akT_12 ho) g1 ?_
  refine V_aload_n (pc := 13) C dX10_stopsHere_13 rfl ?_
  refine V_getR (pc := 14) C dX10_stopsHere_14 lf_X10_50 (fkT_16 ho) ?_
  refine V_iload_n (pc := 17) C dX10_stopsHere_17 rfl ?_
  obtain ⟨g3, hyp⟩ := gd_n hyp
  refine V_iald (pc := 18) C dX10_stopsHere_18 (akT_15 ho) g3 ?_
  refine V_iand (pc := 19) C dX10_stopsHere_19 ?_
  refine V_if_ne (pc := 20) C dX10_stopsHere_20 (tgt := 47) (by decide) (fun q4 => ?_) (fun q4 => ?_)
  · replace hyp := (if_neg q4).symm.trans hyp
    refine V_weak (lv' := [none, none, none]) (lvle_n (lvle_n (lvle_n lvle_0))) ?_
    exact (T_X10_stopsHere_b47 C ho) h hyp
  · replace hyp := (if_pos q4).symm.trans hyp
    refine V_aload_n (pc := 23) C dX10_stopsHere_23 rfl ?_
    refine V_getR (pc := 24) C dX10_stopsHere_24 lf_X10_44 (fkT_14 ho) ?_
    refine V_iload_n (pc := 27) C dX10_stopsHere_27 rfl ?_
    obtain ⟨g5, hyp⟩ := gd_n hyp
    refine V_iald (pc := 28) C dX10_stopsHere_28 (akT_13 ho) g5 ?_
    refine V_aload_n (pc := 29) C dX10_stopsHere_29 rfl ?_
    refine V_getR (pc := 30) C dX10_stopsHere_30 lf_X10_47 (fkT_15 ho) ?_
    refine V_iload_n (pc := 33) C dX10_stopsHere_33 rfl ?_
    obtain ⟨g6, hyp⟩ := gd_n hyp
    refine V_iald (pc := 34) C dX10_stopsHere_34 (akT_14 ho) g6 ?_
    refine V_iand (pc := 35) C dX10_stopsHere_35 ?_
    refine V_if_eq (pc := 36) C dX10_stopsHere_36 (tgt := 51) (by decide) (fun q7 => ?_) (fun q7 => ?_)
    · replace hyp := (if_pos q7).symm.trans hyp
      refine V_weak (lv' := [none, none, none]) (lvle_n (lvle_n (lvle_n lvle_0))) ?_
      exact (T_X10_stopsHere_b51 C ho) h hyp
    · replace hyp := (if_neg q7).symm.trans hyp
      refine V_aload_n (pc := 39) C dX10_stopsHere_39 rfl ?_
      refine V_iload_n (pc := 40) C dX10_stopsHere_40 rfl ?_
      obtain ⟨r8, h9, eh9, hyp⟩ := bI_n hyp
      refine V_callI (pc := 41) C dX10_stopsHere_41 lm_X10_150 mk_X10_hasRoom (okT ho) rfl (M_X10_hasRoom _ ho eh9) rfl pd_X10_hasRoom (by decide) (by decide) (by decide) (As := [.int a1]) (rest := []) rfl (Nat.le_of_ble_eq_true rfl) ?_
      refine V_if_eq (pc := 44) C dX10_stopsHere_44 (tgt := 51) (by decide) (fun q10 => ?_) (fun q10 => ?_)
      · replace hyp := (if_pos q10).symm.trans hyp
        refine V_weak (lv' := [none, none, none]) (lvle_n (lvle_n (lvle_n lvle_0))) ?_
        exact (T_X10_stopsHere_b51 C ho) h9 hyp
      · replace hyp := (if_neg q10).symm.trans hyp
        refine V_weak (lv' := [none, none, none]) (lvle_n (lvle_n (lvle_n lvle_0))) ?_
        exact (T_X10_stopsHere_b47 C ho) h9 hyp
theorem dX10_stop_0 : decode cX10_stop 0 = .ok (.aload_n 0, 1) := by decide +kernel
theorem dX10_stop_1 : decode cX10_stop 1 = .ok (.getfield 32, 3) := by decide +kernel
theorem dX10_stop_4 : decode cX10_stop 4 = .ok (.iload_n 1, 1) := by decide +kernel
theorem dX10_stop_5 : decode cX10_stop 5 = .ok (.iaload, 1) := by decide +kernel
theorem dX10_stop_6 : decode cX10_stop 6 = .ok (.istore_n 3, 1) := by decide +kernel
theorem dX10_stop_7 : decode cX10_stop 7 = .ok (.aload_n 0, 1) := by decide +kernel
theorem dX10_stop_8 : decode cX10_stop 8 = .ok (.iload_n 1, 1) := by decide +kernel
theorem dX10_stop_9 : decode cX10_stop 9 = .ok (.aload_n 0, 1) := by decide +kernel
theorem dX10_stop_10 : decode cX10_stop 10 = .ok (.getfield 41, 3) := by decide +kernel
theorem dX10_stop_13 : decode cX10_stop 13 = .ok (.iload_n 1, 1) := by decide +kernel
theorem dX10_stop_14 : decode cX10_stop 14 = .ok (.iaload, 1) := by decide +kernel
theorem dX10_stop_15 : decode cX10_stop 15 = .ok (.aload_n 0, 1) := by decide +kernel
theorem dX10_stop_16 : decode cX10_stop 16 = .ok (.getfield 50, 3) := by decide +kernel
theorem dX10_stop_19 : decode cX10_stop 19 = .ok (.iload_n 3, 1) := by decide +kernel
theorem dX10_stop_20 : decode cX10_stop 20 = .ok (.iaload, 1) := by decide +kernel
theorem dX10_stop_21 : decode cX10_stop 21 = .ok (.iand, 1) := by decide +kernel
theorem dX10_stop_22 : decode cX10_stop 22 = .ok (.iload_n 2, 1) := by decide +kernel
theorem dX10_stop_23 : decode cX10_stop 23 = .ok (.invokevirtual 204, 3) := by decide +kernel
theorem dX10_stop_26 : decode cX10_stop 26 = .ok (.iconst 0, 1) := by decide +kernel
theorem dX10_stop_27 : decode cX10_stop 27 = .ok (.istore 4, 2) := by decide +kernel
theorem dX10_stop_29 : decode cX10_stop 29 = .ok (.iload 4, 2) := by decide +kernel
theorem dX10_stop_31 : decode cX10_stop 31 = .ok (.aload_n 0, 1) := by decide +kernel
theorem dX10_stop_32 : decode cX10_stop 32 = .ok (.getfield 127, 3) := by decide +kernel
theorem dX10_stop_35 : decode cX10_stop 35 = .ok (.if_icmp .ge 74, 3) := by decide +kernel
theorem dX10_stop_38 : decode cX10_stop 38 = .ok (.aload_n 0, 1) := by decide +kernel
theorem dX10_stop_39 : decode cX10_stop 39 = .ok (.iload_n 1, 1) := by decide +kernel
theorem dX10_stop_40 : decode cX10_stop 40 = .ok (.invokevirtual 150, 3) := by decide +kernel
theorem dX10_stop_43 : decode cX10_stop 43 = .ok (.ifCond .eq 66, 3) := by decide +kernel
theorem dX10_stop_46 : decode cX10_stop 46 = .ok (.iconst 1, 1) := by decide +kernel
theorem dX10_stop_47 : decode cX10_stop 47 = .ok (.iload 4, 2) := by decide +kernel
theorem dX10_stop_49 : decode cX10_stop 49 = .ok (.ishl, 1) := by decide +kernel
theorem dX10_stop_50 : decode cX10_stop 50 = .ok (.istore 5, 2) := by decide +kernel
theorem dX10_stop_52 : decode cX10_stop 52 = .ok (.aload_n 0, 1) := by decide +kernel
theorem dX10_stop_53 : decode cX10_stop 53 = .ok (.getfield 44, 3) := by decide +kernel
theorem dX10_stop_56 : decode cX10_stop 56 = .ok (.iload_n 1, 1) := by decide +kernel
theorem dX10_stop_57 : decode cX10_stop 57 = .ok (.iaload, 1) := by decide +kernel
theorem dX10_stop_58 : decode cX10_stop 58 = .ok (.aload_n 0, 1) := by decide +kernel
theorem dX10_stop_59 : decode cX10_stop 59 = .ok (.getfield 47, 3) := by decide +kernel
theorem dX10_stop_62 : decode cX10_stop 62 = .ok (.iload_n 3, 1) := by decide +kernel
theorem dX10_stop_63 : decode cX10_stop 63 = .ok (.iaload, 1) := by decide +kernel
theorem dX10_stop_64 : decode cX10_stop 64 = .ok (.iand, 1) := by decide +kernel
theorem dX10_stop_65 : decode cX10_stop 65 = .ok (.iload 5, 2) := by decide +kernel
theorem dX10_stop_67 : decode cX10_stop 67 = .ok (.iand, 1) := by decide +kernel
theorem dX10_stop_68 : decode cX10_stop 68 = .ok (.ifCond .eq 35, 3) := by decide +kernel
theorem dX10_stop_71 : decode cX10_stop 71 = .ok (.aload_n 0, 1) := by decide +kernel
theorem dX10_stop_72 : decode cX10_stop 72 = .ok (.getfield 44, 3) := by decide +kernel
theorem dX10_stop_75 : decode cX10_stop 75 = .ok (.iload_n 1, 1) := by decide +kernel
theorem dX10_stop_76 : decode cX10_stop 76 = .ok (.dup2, 1) := by decide +kernel
theorem dX10_stop_77 : decode cX10_stop 77 = .ok (.iaload, 1) := by decide +kernel
theorem dX10_stop_78 : decode cX10_stop 78 = .ok (.iload 5, 2) := by decide +kernel
theorem dX10_stop_80 : decode cX10_stop 80 = .ok (.iconst (-1), 1) := by decide +kernel
theorem dX10_stop_81 : decode cX10_stop 81 = .ok (.ixor, 1) := by decide +kernel
theorem dX10_stop_82 : decode cX10_stop 82 = .ok (.iand, 1) := by decide +kernel
theorem dX10_stop_83 : decode cX10_stop 83 = .ok (.iastore, 1) := by decide +kernel
theorem dX10_stop_84 : decode cX10_stop 84 = .ok (.aload_n 0, 1) := by decide +kernel
theorem dX10_stop_85 : decode cX10_stop 85 = .ok (.getfield 41, 3) := by decide +kernel
theorem dX10_stop_88 : decode cX10_stop 88 = .ok (.iload_n 1, 1) := by decide +kernel
theorem dX10_stop_89 : decode cX10_stop 89 = .ok (.dup2, 1) := by decide +kernel
theorem dX10_stop_90 : decode cX10_stop 90 = .ok (.iaload, 1) := by decide +kernel
theorem dX10_stop_91 : decode cX10_stop 91 = .ok (.iload 5, 2) := by decide +kernel
theorem dX10_stop_93 : decode cX10_stop 93 = .ok (.ior, 1) := by decide +kernel
theorem dX10_stop_94 : decode cX10_stop 94 = .ok (.iastore, 1) := by decide +kernel
theorem dX10_stop_95 : decode cX10_stop 95 = .ok (.aload_n 0, 1) := by decide +kernel
theorem dX10_stop_96 : decode cX10_stop 96 = .ok (.getfield 15, 3) := by decide +kernel
theorem dX10_stop_99 : decode cX10_stop 99 = .ok (.iload 4, 2) := by decide +kernel
theorem dX10_stop_101 : decode cX10_stop 101 = .ok (.iload_n 2, 1) := by decide +kernel
theorem dX10_stop_102 : decode cX10_stop 102 = .ok (.iastore, 1) := by decide +kernel
theorem dX10_stop_103 : decode cX10_stop 103 = .ok (.iinc 4 1, 3) := by decide +kernel
theorem dX10_stop_106 : decode cX10_stop 106 = .ok (.goto (-77), 3) := by decide +kernel
theorem dX10_stop_109 : decode cX10_stop 109 = .ok (.aload_n 0, 1) := by decide +kernel
theorem dX10_stop_110 : decode cX10_stop 110 = .ok (.getfield 38, 3) := by decide +kernel
theorem dX10_stop_113 : decode cX10_stop 113 = .ok (.iload_n 1, 1) := by decide +kernel
theorem dX10_stop_114 : decode cX10_stop 114 = .ok (.aload_n 0, 1) := by decide +kernel
theorem dX10_stop_115 : decode cX10_stop 115 = .ok (.getfield 57, 3) := by decide +kernel
theorem dX10_stop_118 : decode cX10_stop 118 = .ok (.getfield 211, 3) := by decide +kernel
theorem dX10_stop_121 : decode cX10_stop 121 = .ok (.iastore, 1) := by decide +kernel
theorem dX10_stop_122 : decode cX10_stop 122 = .ok (.aload_n 0, 1) := by decide +kernel
theorem dX10_stop_123 : decode cX10_stop 123 = .ok (.getfield 24, 3) := by decide +kernel
theorem dX10_stop_126 : decode cX10_stop 126 = .ok (.iload_n 1, 1) := by decide +kernel
theorem dX10_stop_127 : decode cX10_stop 127 = .ok (.dup2, 1) := by decide +kernel
theorem dX10_stop_128 : decode cX10_stop 128 = .ok (.iaload, 1) := by decide +kernel
theorem dX10_stop_129 : decode cX10_stop 129 = .ok (.iconst 1, 1) := by decide +kernel
theorem dX10_stop_130 : decode cX10_stop 130 = .ok (.iadd, 1) := by decide +kernel
theorem dX10_stop_131 : decode cX10_stop 131 = .ok (.iastore, 1) := by decide +kernel
theorem dX10_stop_132 : decode cX10_stop 132 = .ok (.return_, 1) := by decide +kernel
def F_X10_stop_b103 (N : Nat) (o : Nat) (rc29 : Int32 → Int32 → Int32 → Int32 → PH → Option PH) (x1 : Int32) (x2 : Int32) (x3 : Int32) (x4 : Int32) (h : PH) : Option PH :=
  ib (x4 + (1 : Int32)) fun v1 =>
  rc29 x1 x2 x3 v1 h
set_option maxRecDepth 20000 in
set_option maxHeartbeats 4000000 in
theorem T_X10_stop_b103 {X : CT} (C : CX X 103 cX10_stop 6 RX10 none 2 41) {h0 : PH} {N : Nat} {o : Nat} (ho : IST o) {rc29 : Int32 → Int32 → Int32 → Int32 → PH → Option PH} (hr29 : ∀ (x1 : Int32) (x2 : Int32) (x3 : Int32) (x4 : Int32) (h : PH), rc29 x1 x2 x3 x4 h = some h0 → V X (QV X h0) h 29 [some (.ref o), some (.int x1), some (.int x2), some (.int x3), some (.int x4), none] []) : ∀ (x1 : Int32) (x2 : Int32) (x3 : Int32) (x4 : Int32) (h : PH), F_X10_stop_b103 N o rc29 x1 x2 x3 x4 h = some h0 → V X (QV X h0) h 103 [some (.ref o), some (.int x1), some (.int x2), some (.int x3), some (.int x4), none] [] := by
  intro x1 x2 x3 x4 h hyp
  unfold F_X10_stop_b103 at hyp
  obtain ⟨v1, ev1, hyp⟩ := ib_n hyp
  refine V_iinc (pc := 103) C dX10_stop_103 (v := v1) rfl (by rw [ev1]; rfl) (by decide) rfl ?_
  refine V_goto (pc := 106) C dX10_stop_106 (tgt := 29) (by decide) ?_
  refine V_weak (lv' := [some (.ref o), some (.int x1), some (.int x2), some (.int x3), some (.int v1), none]) (lvle_s (lvle_s (lvle_s (lvle_s (lvle_s (lvle_n lvle_0)))))) ?_
  exact hr29 x1 x2 x3 v1 h hyp
def F_X10_stop_b109 (N : Nat) (o : Nat) (x1 : Int32) (h : PH) : Option PH :=
  if inb x1 2 = true then
  hb (hs h (o + 11) x1.toNatClampNeg (h.1 51 10)) fun h2 =>
  hb (hs h2 (o + 5) x1.toNatClampNeg ((h2.1 (o + 5) x1.toNatClampNeg) + (1 : Int32))) fun h3 =>
  some h3
  else none
set_option maxRecDepth 20000 in
set_option maxHeartbeats 4000000 in
theorem T_X10_stop_b109 {X : CT} (C : CX X 103 cX10_stop 6 RX10 none 2 41) {h0 : PH} {N : Nat} {o : Nat} (ho : IST o) : ∀ (x1 : Int32) (h : PH), F_X10_stop_b109 N o x1 h = some h0 → V X (QV X h0) h 109 [some (.ref o), some (.int x1), none, none, none, none] [] := by
  intro x1 h hyp
  unfold F_X10_stop_b109 at hyp
  refine V_aload_n (pc := 109) C dX10_stop_109 rfl ?_
  refine V_getR (pc := 110) C dX10_stop_110 lf_X10_38 (fkT_12 ho) ?_
  refine V_iload_n (pc := 113) C dX10_stop_113 rfl ?_
  refine V_aload_n (pc := 114) C dX10_stop_114 rfl ?_
  refine V_getR (pc := 115) C dX10_stop_115 lf_X10_57 (fkT_9 ho) ?_
  refine V_getI (pc := 118) C dX10_stop_118 lf_X10_211 fk_51_10 ?_
  obtain ⟨g1, hyp⟩ := gd_n hyp
  obtain ⟨h2, eh2, hyp⟩ := hb_n hyp
  refine V_iast (pc := 121) C dX10_stop_121 (akT_11 ho) g1 eh2 ?_
  refine V_aload_n (pc := 122) C dX10_stop_122 rfl ?_
  refine V_getR (pc := 123) C dX10_stop_123 lf_X10_24 (fkT_4 ho) ?_
  refine V_iload_n (pc := 126) C dX10_stop_126 rfl ?_
  refine V_dup2 (pc := 127) C dX10_stop_127 rfl rfl ?_
  refine V_iald (pc := 128) C dX10_stop_128 (akT_5 ho) g1 ?_
  refine V_iconst (pc := 129) C dX10_stop_129 (v := 1) (by decide) ?_
  refine V_iadd (pc := 130) C dX10_stop_130 ?_
  obtain ⟨h3, eh3, hyp⟩ := hb_n hyp
  refine V_iast (pc := 131) C dX10_stop_131 (akT_5 ho) g1 eh3 ?_
  cases hyp
  exact V_vret C dX10_stop_132
def F_X10_stop_b29 (N : Nat) (o : Nat) : Nat → Int32 → Int32 → Int32 → Int32 → PH → Option PH
  | 0, _, _, _, _, _ => none
  | n + 1, x1, x2, x3, x4, h =>
    if (h.1 o 7) ≤ x4 then
      F_X10_stop_b109 N o x1 h
    else
      bI (F_X10_hasRoom o x1 h) fun r2 h3 =>
      if r2 = 0 then
        F_X10_stop_b109 N o x1 h3
      else
        ib ((1 : Int32) <<< (x4 &&& 31)) fun v5 =>
        if inb x1 2 = true then
        if inb x3 6 = true then
        if (((h3.1 (o + 13) x1.toNatClampNeg) &&& (h3.1 (o + 14) x3.toNatClampNeg)) &&& v5) = 0 then
          F_X10_stop_b103 N o (F_X10_stop_b29 N o n) x1 x2 x3 x4 h3
        else
          if inb x1 2 = true then
          hb (hs h3 (o + 13) x1.toNatClampNeg ((h3.1 (o + 13) x1.toNatClampNeg) &&& (v5 ^^^ (-1 : Int32)))) fun h10 =>
          hb (hs h10 (o + 12) x1.toNatClampNeg ((h10.1 (o + 12) x1.toNatClampNeg) ||| v5)) fun h11 =>
          if inb x4 24 = true then
          hb (hs h11 (o + 2) x4.toNatClampNeg x2) fun h13 =>
          F_X10_stop_b103 N o (F_X10_stop_b29 N o n) x1 x2 x3 x4 h13
          else none
          else none
        else none
        else none
set_option maxRecDepth 20000 in
set_option maxHeartbeats 4000000 in
theorem T_X10_stop_b29 {X : CT} (C : CX X 103 cX10_stop 6 RX10 none 2 41) {h0 : PH} {N : Nat} {o : Nat} (ho : IST o) : ∀ (n : Nat) (x1 : Int32) (x2 : Int32) (x3 : Int32) (x4 : Int32) (h : PH), F_X10_stop_b29 N o n x1 x2 x3 x4 h = some h0 → V X (QV X h0) h 29 [some (.ref o), some (.int x1), some (.int x2), some (.int x3), some (.int x4), none] [] := by
  intro n
  induction n with
  | zero =>
    intro x1 x2 x3 x4 h hyp
    cases hyp
  | succ n ih =>
    intro x1 x2 x3 x4 h hyp
    unfold F_X10_stop_b29 at hyp
    refine V_iload (pc := 29) C dX10_stop_29 rfl ?_
    refine V_aload_n (pc := 31) C dX10_stop_31 rfl ?_
    refine V_getI (pc := 32) C dX10_stop_32 lf_X10_127 (fkT_7 ho) ?_
    refine V_icmp_ge (pc := 35) C dX10_stop_35 (tgt := 109) (by decide) (fun q1 => ?_) (fun q1 => ?_)
    · replace hyp := (if_pos q1).symm.trans hyp
      refine V_weak (lv' := [some (.ref o), some (.int x1), none, none, none, none]) (lvle_s (lvle_s (lvle_n (lvle_n (lvle_n (lvle_n lvle_0)))))) ?_
      exact (T_X10_stop_b109 C ho) x1 h hyp
    · replace hyp := (if_neg q1).symm.trans hyp
      refine V_aload_n (pc := 38) C dX10_stop_38 rfl ?_
      refine V_iload_n (pc := 39) C dX10_stop_39 rfl ?_
      obtain ⟨r2, h3, eh3, hyp⟩ := bI_n hyp
      refine V_callI (pc := 40) C dX10_stop_40 lm_X10_150 mk_X10_hasRoom (okT ho) rfl (M_X10_hasRoom _ ho eh3) rfl pd_X10_hasRoom (by decide) (by decide) (by decide) (As := [.int x1]) (rest := []) rfl (Nat.le_of_ble_eq_true rfl) ?_
      refine V_if_eq (pc := 43) C dX10_stop_43 (tgt := 109) (by decide) (fun q4 => ?_) (fun q4 => ?_)
      · replace hyp := (if_pos q4).symm.trans hyp
        refine V_weak (lv' := [some (.ref o), some (.int x1), none, none, none, none]) (lvle_s (lvle_s (lvle_n (lvle_n (lvle_n (lvle_n lvle_0)))))) ?_
        exact (T_X10_stop_b109 C ho) x1 h3 hyp
      · replace hyp := (if_neg q4).symm.trans hyp
        refine V_iconst (pc := 46) C dX10_stop_46 (v := 1) (by decide) ?_
        refine V_iload (pc := 47) C dX10_stop_47 rfl ?_
        refine V_ishl (pc := 49) C dX10_stop_49 ?_
        obtain ⟨v5, ev5, hyp⟩ := ib_n hyp
        refine V_topI ev5 ?_
        refine V_istore (pc := 50) C dX10_stop_50 (by decide) rfl ?_
        refine V_aload_n (pc := 52) C dX10_stop_52 rfl ?_
        refine V_getR (pc := 53) C dX10_stop_53 lf_X10_44 (fkT_14 ho) ?_
        refine V_iload_n (pc := 56) C dX10_stop_56 rfl ?_
        obtain ⟨g6, hyp⟩ := gd_n hyp
        refine V_iald (pc := 57) C dX10_stop_57 (akT_13 ho) g6 ?_
        refine V_aload_n (pc := 58) C dX10_stop_58 rfl ?_
        refine V_getR (pc := 59) C dX10_stop_59 lf_X10_47 (fkT_15 ho) ?_
        refine V_iload_n (pc := 62) C dX10_stop_62 rfl ?_
        obtain ⟨g7, hyp⟩ := gd_n hyp
        refine V_iald (pc := 63) C dX10_stop_63 (akT_14 ho) g7 ?_
        refine V_iand (pc := 64) C dX10_stop_64 ?_
        refine V_iload (pc := 65) C dX10_stop_65 rfl ?_
        refine V_iand (pc := 67) C dX10_stop_67 ?_
        refine V_if_eq (pc := 68) C dX10_stop_68 (tgt := 103) (by decide) (fun q8 => ?_) (fun q8 => ?_)
        · replace hyp := (if_pos q8).symm.trans hyp
          refine V_weak (lv' := [some (.ref o), some (.int x1), some (.int x2), some (.int x3), some (.int x4), none]) (lvle_s (lvle_s (lvle_s (lvle_s (lvle_s (lvle_n lvle_0)))))) ?_
          exact (T_X10_stop_b103 C ho ih) x1 x2 x3 x4 h3 hyp
        · replace hyp := (if_neg q8).symm.trans hyp
          refine V_aload_n (pc := 71) C dX10_stop_71 rfl ?_
          refine V_getR (pc := 72) C dX10_stop_72 lf_X10_44 (fkT_14 ho) ?_
          refine V_iload_n (pc := 75) C dX10_stop_75 rfl ?_
          refine V_dup2 (pc := 76) C dX10_stop_76 rfl rfl ?_
          obtain ⟨g9, hyp⟩ := gd_n hyp
          refine V_iald (pc := 77) C dX10_stop_77 (akT_13 ho) g9 ?_
          refine V_iload (pc := 78) C dX10_stop_78 rfl ?_
          refine V_iconst (pc := 80) C dX10_stop_80 (v := -1) (by decide) ?_
          refine V_ixor (pc := 81) C dX10_stop_81 ?_
          refine V_iand (pc := 82) C dX10_stop_82 ?_
          obtain ⟨h10, eh10, hyp⟩ := hb_n hyp
          refine V_iast (pc := 83) C dX10_stop_83 (akT_13 ho) g9 eh10 ?_
          refine V_aload_n (pc := 84) C dX10_stop_84 rfl ?_
          refine V_getR (pc := 85) C dX10_stop_85 lf_X10_41 (fkT_13 ho) ?_
          refine V_iload_n (pc := 88) C dX10_stop_88 rfl ?_
          refine V_dup2 (pc := 89) C dX10_stop_89 rfl rfl ?_
          refine V_iald (pc := 90) C dX10_stop_90 (akT_12 ho) g9 ?_
          refine V_iload (pc := 91) C dX10_stop_91 rfl ?_
          refine V_ior (pc := 93) C dX10_stop_93 ?_
          obtain ⟨h11, eh11, hyp⟩ := hb_n hyp
          refine V_iast (pc := 94) C dX10_stop_94 (akT_12 ho) g9 eh11 ?_
          refine V_aload_n (pc := 95) C dX10_stop_95 rfl ?_
          refine V_getR (pc := 96) C dX10_stop_96 lf_X10_15 (fkT_1 ho) ?_
          refine V_iload (pc := 99) C dX10_stop_99 rfl ?_
          refine V_iload_n (pc := 101) C dX10_stop_101 rfl ?_
          obtain ⟨g12, hyp⟩ := gd_n hyp
          obtain ⟨h13, eh13, hyp⟩ := hb_n hyp
          refine V_iast (pc := 102) C dX10_stop_102 (akT_2 ho) g12 eh13 ?_
          refine V_weak (lv' := [some (.ref o), some (.int x1), some (.int x2), some (.int x3), some (.int x4), none]) (lvle_s (lvle_s (lvle_s (lvle_s (lvle_s (lvle_n lvle_0)))))) ?_
          exact (T_X10_stop_b103 C ho ih) x1 x2 x3 x4 h13 hyp
def F_X10_stop (N : Nat) (o : Nat) (a1 : Int32) (a2 : Int32) (h : PH) : Option PH :=
  if inb a1 2 = true then
  ib (h.1 (o + 9) a1.toNatClampNeg) fun v2 =>
  if inb v2 6 = true then
  bV (F_X10_letOut N o a1 ((h.1 (o + 12) a1.toNatClampNeg) &&& (h.1 (o + 15) v2.toNatClampNeg)) a2 h) fun h5 =>
  F_X10_stop_b29 N o N a1 a2 v2 (0 : Int32) h5
  else none
  else none
set_option maxRecDepth 20000 in
set_option maxHeartbeats 4000000 in
theorem M_X10_stop (E : EV) {N : Nat} {o : Nat} {a1 : Int32} {a2 : Int32} (ho : IST o) {h h2 : PH} (hyp : F_X10_stop N o a1 a2 h = some h2) : MV E 103 yX10_stop cX10_stop 6 none 2 41 [.ref o, .int a1, .int a2] h h2 := by
  refine MV.of 3 (by decide) rfl (fun X e1 C => ?_)
  subst e1
  replace C : CX X 103 cX10_stop 6 RX10 none 2 41 := C
  show V X _ h 0 [some (.ref o), some (.int a1), some (.int a2), none, none, none] []
  unfold F_X10_stop at hyp
  refine V_aload_n (pc := 0) C dX10_stop_0 rfl ?_
  refine V_getR (pc := 1) C dX10_stop_1 lf_X10_32 (fkT_10 ho) ?_
  refine V_iload_n (pc := 4) C dX10_stop_4 rfl ?_
  obtain ⟨g1, hyp⟩ := gd_n hyp
  refine V_iald (pc := 5) C dX10_stop_5 (akT_9 ho) g1 ?_
  obtain ⟨v2, ev2, hyp⟩ := ib_n hyp
  refine V_topI ev2 ?_
  refine V_istore_n (pc := 6) C dX10_stop_6 (by decide) rfl ?_
  refine V_aload_n (pc := 7) C dX10_stop_7 rfl ?_
  refine V_iload_n (pc := 8) C dX10_stop_8 rfl ?_
  refine V_aload_n (pc := 9) C dX10_stop_9 rfl ?_
  refine V_getR (pc := 10) C dX10_stop_10 lf_X10_41 (fkT_13 ho) ?_
  refine V_iload_n (pc := 13) C dX10_stop_13 rfl ?_
  refine V_iald (pc := 14) C dX10_stop_14 (akT_12 ho) g1 ?_
  refine V_aload_n (pc := 15) C dX10_stop_15 rfl ?_
  refine V_getR (pc := 16) C dX10_stop_16 lf_X10_50 (fkT_16 ho) ?_
  refine V_iload_n (pc := 19) C dX10_stop_19 rfl ?_
  obtain ⟨g3, hyp⟩ := gd_n hyp
  refine V_iald (pc := 20) C dX10_stop_20 (akT_15 ho) g3 ?_
  refine V_iand (pc := 21) C dX10_stop_21 ?_
  refine V_iload_n (pc := 22) C dX10_stop_22 rfl ?_
  obtain ⟨h5, eh5, hyp⟩ := bV_n hyp
  refine V_callV (pc := 23) C dX10_stop_23 lm_X10_204 mk_X10_letOut (okT ho) rfl (M_X10_letOut _ ho eh5) rfl pd_X10_letOut (by decide) (by decide) (by decide) (As := [.int a1, .int ((h.1 (o + 12) a1.toNatClampNeg) &&& (h.1 (o + 15) v2.toNatClampNeg)), .int a2]) (rest := []) rfl (Nat.le_of_ble_eq_true rfl) ?_
  refine V_iconst (pc := 26) C dX10_stop_26 (v := 0) (by decide) ?_
  refine V_istore (pc := 27) C dX10_stop_27 (by decide) rfl ?_
  refine V_weak (lv' := [some (.ref o), some (.int a1), some (.int a2), some (.int v2), some (.int (0 : Int32)), none]) (lvle_s (lvle_s (lvle_s (lvle_s (lvle_s (lvle_n lvle_0)))))) ?_
  exact (T_X10_stop_b29 C ho) N a1 a2 v2 (0 : Int32) h5 hyp
theorem dX10_wayTo_0 : decode cX10_wayTo 0 = .ok (.iload_n 0, 1) := by decide +kernel
theorem dX10_wayTo_1 : decode cX10_wayTo 1 = .ok (.iload_n 1, 1) := by decide +kernel
theorem dX10_wayTo_2 : decode cX10_wayTo 2 = .ok (.iconst 1, 1) := by decide +kernel
theorem dX10_wayTo_3 : decode cX10_wayTo 3 = .ok (.iadd, 1) := by decide +kernel
theorem dX10_wayTo_4 : decode cX10_wayTo 4 = .ok (.ishr, 1) := by decide +kernel
theorem dX10_wayTo_5 : decode cX10_wayTo 5 = .ok (.ifCond .eq 7, 3) := by decide +kernel
theorem dX10_wayTo_8 : decode cX10_wayTo 8 = .ok (.iconst 1, 1) := by decide +kernel
theorem dX10_wayTo_9 : decode cX10_wayTo 9 = .ok (.goto 4, 3) := by decide +kernel
theorem dX10_wayTo_12 : decode cX10_wayTo 12 = .ok (.iconst 0, 1) := by decide +kernel
theorem dX10_wayTo_13 : decode cX10_wayTo 13 = .ok (.istore_n 3, 1) := by decide +kernel
theorem dX10_wayTo_14 : decode cX10_wayTo 14 = .ok (.iload_n 0, 1) := by decide +kernel
theorem dX10_wayTo_15 : decode cX10_wayTo 15 = .ok (.iconst 1, 1) := by decide +kernel
theorem dX10_wayTo_16 : decode cX10_wayTo 16 = .ok (.iload_n 1, 1) := by decide +kernel
theorem dX10_wayTo_17 : decode cX10_wayTo 17 = .ok (.ishl, 1) := by decide +kernel
theorem dX10_wayTo_18 : decode cX10_wayTo 18 = .ok (.iconst 1, 1) := by decide +kernel
theorem dX10_wayTo_19 : decode cX10_wayTo 19 = .ok (.isub, 1) := by decide +kernel
theorem dX10_wayTo_20 : decode cX10_wayTo 20 = .ok (.iand, 1) := by decide +kernel
theorem dX10_wayTo_21 : decode cX10_wayTo 21 = .ok (.ifCond .eq 7, 3) := by decide +kernel
theorem dX10_wayTo_24 : decode cX10_wayTo 24 = .ok (.iconst 1, 1) := by decide +kernel
theorem dX10_wayTo_25 : decode cX10_wayTo 25 = .ok (.goto 4, 3) := by decide +kernel
theorem dX10_wayTo_28 : decode cX10_wayTo 28 = .ok (.iconst 0, 1) := by decide +kernel
theorem dX10_wayTo_29 : decode cX10_wayTo 29 = .ok (.istore 4, 2) := by decide +kernel
theorem dX10_wayTo_31 : decode cX10_wayTo 31 = .ok (.iload_n 2, 1) := by decide +kernel
theorem dX10_wayTo_32 : decode cX10_wayTo 32 = .ok (.ifCond .le 7, 3) := by decide +kernel
theorem dX10_wayTo_35 : decode cX10_wayTo 35 = .ok (.iload_n 3, 1) := by decide +kernel
theorem dX10_wayTo_36 : decode cX10_wayTo 36 = .ok (.ifCond .ne 12, 3) := by decide +kernel
theorem dX10_wayTo_39 : decode cX10_wayTo 39 = .ok (.iload_n 2, 1) := by decide +kernel
theorem dX10_wayTo_40 : decode cX10_wayTo 40 = .ok (.ifCond .ge 10, 3) := by decide +kernel
theorem dX10_wayTo_43 : decode cX10_wayTo 43 = .ok (.iload 4, 2) := by decide +kernel
theorem dX10_wayTo_45 : decode cX10_wayTo 45 = .ok (.ifCond .eq 5, 3) := by decide +kernel
theorem dX10_wayTo_48 : decode cX10_wayTo 48 = .ok (.iload_n 2, 1) := by decide +kernel
theorem dX10_wayTo_49 : decode cX10_wayTo 49 = .ok (.ireturn, 1) := by decide +kernel
theorem dX10_wayTo_50 : decode cX10_wayTo 50 = .ok (.iconst 1, 1) := by decide +kernel
theorem dX10_wayTo_51 : decode cX10_wayTo 51 = .ok (.istore 5, 2) := by decide +kernel
theorem dX10_wayTo_53 : decode cX10_wayTo 53 = .ok (.iload 5, 2) := by decide +kernel
theorem dX10_wayTo_55 : decode cX10_wayTo 55 = .ok (.bipush 6, 2) := by decide +kernel
theorem dX10_wayTo_57 : decode cX10_wayTo 57 = .ok (.if_icmp .ge 41, 3) := by decide +kernel
theorem dX10_wayTo_60 : decode cX10_wayTo 60 = .ok (.iload_n 0, 1) := by decide +kernel
theorem dX10_wayTo_61 : decode cX10_wayTo 61 = .ok (.iload_n 1, 1) := by decide +kernel
theorem dX10_wayTo_62 : decode cX10_wayTo 62 = .ok (.iload 5, 2) := by decide +kernel
theorem dX10_wayTo_64 : decode cX10_wayTo 64 = .ok (.iadd, 1) := by decide +kernel
theorem dX10_wayTo_65 : decode cX10_wayTo 65 = .ok (.ishr, 1) := by decide +kernel
theorem dX10_wayTo_66 : decode cX10_wayTo 66 = .ok (.iconst 1, 1) := by decide +kernel
theorem dX10_wayTo_67 : decode cX10_wayTo 67 = .ok (.iand, 1) := by decide +kernel
theorem dX10_wayTo_68 : decode cX10_wayTo 68 = .ok (.ifCond .eq 5, 3) := by decide +kernel
theorem dX10_wayTo_71 : decode cX10_wayTo 71 = .ok (.iconst 1, 1) := by decide +kernel
theorem dX10_wayTo_72 : decode cX10_wayTo 72 = .ok (.ireturn, 1) := by decide +kernel
theorem dX10_wayTo_73 : decode cX10_wayTo 73 = .ok (.iload 5, 2) := by decide +kernel
theorem dX10_wayTo_75 : decode cX10_wayTo 75 = .ok (.iload_n 1, 1) := by decide +kernel
theorem dX10_wayTo_76 : decode cX10_wayTo 76 = .ok (.if_icmp .gt 16, 3) := by decide +kernel
theorem dX10_wayTo_79 : decode cX10_wayTo 79 = .ok (.iload_n 0, 1) := by decide +kernel
theorem dX10_wayTo_80 : decode cX10_wayTo 80 = .ok (.iload_n 1, 1) := by decide +kernel
theorem dX10_wayTo_81 : decode cX10_wayTo 81 = .ok (.iload 5, 2) := by decide +kernel
theorem dX10_wayTo_83 : decode cX10_wayTo 83 = .ok (.isub, 1) := by decide +kernel
theorem dX10_wayTo_84 : decode cX10_wayTo 84 = .ok (.ishr, 1) := by decide +kernel
theorem dX10_wayTo_85 : decode cX10_wayTo 85 = .ok (.iconst 1, 1) := by decide +kernel
theorem dX10_wayTo_86 : decode cX10_wayTo 86 = .ok (.iand, 1) := by decide +kernel
theorem dX10_wayTo_87 : decode cX10_wayTo 87 = .ok (.ifCond .eq 5, 3) := by decide +kernel
theorem dX10_wayTo_90 : decode cX10_wayTo 90 = .ok (.iconst (-1), 1) := by decide +kernel
theorem dX10_wayTo_91 : decode cX10_wayTo 91 = .ok (.ireturn, 1) := by decide +kernel
theorem dX10_wayTo_92 : decode cX10_wayTo 92 = .ok (.iinc 5 1, 3) := by decide +kernel
theorem dX10_wayTo_95 : decode cX10_wayTo 95 = .ok (.goto (-42), 3) := by decide +kernel
theorem dX10_wayTo_98 : decode cX10_wayTo 98 = .ok (.iconst 0, 1) := by decide +kernel
theorem dX10_wayTo_99 : decode cX10_wayTo 99 = .ok (.ireturn, 1) := by decide +kernel
def F_X10_wayTo_b92 (N : Nat) (rc53 : Int32 → Int32 → Int32 → PH → Option (Int32 × PH)) (x0 : Int32) (x1 : Int32) (x5 : Int32) (h : PH) : Option (Int32 × PH) :=
  ib (x5 + (1 : Int32)) fun v1 =>
  rc53 x0 x1 v1 h
set_option maxRecDepth 20000 in
set_option maxHeartbeats 4000000 in
theorem T_X10_wayTo_b92 {X : CT} (C : CX X 103 cX10_wayTo 6 RX10 (some .int) 0 0) {r0 : Int32} {h0 : PH} {N : Nat} {rc53 : Int32 → Int32 → Int32 → PH → Option (Int32 × PH)} (hr53 : ∀ (x0 : Int32) (x1 : Int32) (x5 : Int32) (h : PH), rc53 x0 x1 x5 h = some (r0, h0) → V X (QI X r0 h0) h 53 [some (.int x0), some (.int x1), none, none, none, some (.int x5)] []) : ∀ (x0 : Int32) (x1 : Int32) (x5 : Int32) (h : PH), F_X10_wayTo_b92 N rc53 x0 x1 x5 h = some (r0, h0) → V X (QI X r0 h0) h 92 [some (.int x0), some (.int x1), none, none, none, some (.int x5)] [] := by
  intro x0 x1 x5 h hyp
  unfold F_X10_wayTo_b92 at hyp
  obtain ⟨v1, ev1, hyp⟩ := ib_n hyp
  refine V_iinc (pc := 92) C dX10_wayTo_92 (v := v1) rfl (by rw [ev1]; rfl) (by decide) rfl ?_
  refine V_goto (pc := 95) C dX10_wayTo_95 (tgt := 53) (by decide) ?_
  refine V_weak (lv' := [some (.int x0), some (.int x1), none, none, none, some (.int v1)]) (lvle_s (lvle_s (lvle_n (lvle_n (lvle_n (lvle_s lvle_0)))))) ?_
  exact hr53 x0 x1 v1 h hyp
def F_X10_wayTo_b53 (N : Nat) : Nat → Int32 → Int32 → Int32 → PH → Option (Int32 × PH)
  | 0, _, _, _, _ => none
  | n + 1, x0, x1, x5, h =>
    if (6 : Int32) ≤ x5 then
      some ((0 : Int32), h)
    else
      if ((x0 >>> ((x1 + x5) &&& 31)) &&& (1 : Int32)) = 0 then
        if x1 < x5 then
          F_X10_wayTo_b92 N (F_X10_wayTo_b53 N n) x0 x1 x5 h
        else
          if ((x0 >>> ((x1 - x5) &&& 31)) &&& (1 : Int32)) = 0 then
            F_X10_wayTo_b92 N (F_X10_wayTo_b53 N n) x0 x1 x5 h
          else
            some ((-1 : Int32), h)
      else
        some ((1 : Int32), h)
set_option maxRecDepth 20000 in
set_option maxHeartbeats 4000000 in
theorem T_X10_wayTo_b53 {X : CT} (C : CX X 103 cX10_wayTo 6 RX10 (some .int) 0 0) {r0 : Int32} {h0 : PH} {N : Nat} : ∀ (n : Nat) (x0 : Int32) (x1 : Int32) (x5 : Int32) (h : PH), F_X10_wayTo_b53 N n x0 x1 x5 h = some (r0, h0) → V X (QI X r0 h0) h 53 [some (.int x0), some (.int x1), none, none, none, some (.int x5)] [] := by
  intro n
  induction n with
  | zero =>
    intro x0 x1 x5 h hyp
    cases hyp
  | succ n ih =>
    intro x0 x1 x5 h hyp
    unfold F_X10_wayTo_b53 at hyp
    refine V_iload (pc := 53) C dX10_wayTo_53 rfl ?_
    refine V_bipush (pc := 55) C dX10_wayTo_55 (v := 6) (by decide) ?_
    refine V_icmp_ge (pc := 57) C dX10_wayTo_57 (tgt := 98) (by decide) (fun q1 => ?_) (fun q1 => ?_)
    · replace hyp := (if_pos q1).symm.trans hyp
      refine V_iconst (pc := 98) C dX10_wayTo_98 (v := 0) (by decide) ?_
      cases hyp
      exact V_iret C dX10_wayTo_99
    · replace hyp := (if_neg q1).symm.trans hyp
      refine V_iload_n (pc := 60) C dX10_wayTo_60 rfl ?_
      refine V_iload_n (pc := 61) C dX10_wayTo_61 rfl ?_
      refine V_iload (pc := 62) C dX10_wayTo_62 rfl ?_
      refine V_iadd (pc := 64) C dX10_wayTo_64 ?_
      refine V_ishr (pc := 65) C dX10_wayTo_65 ?_
      refine V_iconst (pc := 66) C dX10_wayTo_66 (v := 1) (by decide) ?_
      refine V_iand (pc := 67) C dX10_wayTo_67 ?_
      refine V_if_eq (pc := 68) C dX10_wayTo_68 (tgt := 73) (by decide) (fun q2 => ?_) (fun q2 => ?_)
      · replace hyp := (if_pos q2).symm.trans hyp
        refine V_iload (pc := 73) C dX10_wayTo_73 rfl ?_
        refine V_iload_n (pc := 75) C dX10_wayTo_75 rfl ?_
        refine V_icmp_gt (pc := 76) C dX10_wayTo_76 (tgt := 92) (by decide) (fun q3 => ?_) (fun q3 => ?_)
        · replace hyp := (if_pos q3).symm.trans hyp
          refine V_weak (lv' := [some (.int x0), some (.int x1), none, none, none, some (.int x5)]) (lvle_s (lvle_s (lvle_n (lvle_n (lvle_n (lvle_s lvle_0)))))) ?_
          exact (T_X10_wayTo_b92 C ih) x0 x1 x5 h hyp
        · replace hyp := (if_neg q3).symm.trans hyp
          refine V_iload_n (pc := 79) C dX10_wayTo_79 rfl ?_
          refine V_iload_n (pc := 80) C dX10_wayTo_80 rfl ?_
          refine V_iload (pc := 81) C dX10_wayTo_81 rfl ?_
          refine V_isub (pc := 83) C dX10_wayTo_83 ?_
          refine V_ishr (pc := 84) C dX10_wayTo_84 ?_
          refine V_iconst (pc := 85) C dX10_wayTo_85 (v := 1) (by decide) ?_
          refine V_iand (pc := 86) C dX10_wayTo_86 ?_
          refine V_if_eq (pc := 87) C dX10_wayTo_87 (tgt := 92) (by decide) (fun q4 => ?_) (fun q4 => ?_)
          · replace hyp := (if_pos q4).symm.trans hyp
            refine V_weak (lv' := [some (.int x0), some (.int x1), none, none, none, some (.int x5)]) (lvle_s (lvle_s (lvle_n (lvle_n (lvle_n (lvle_s lvle_0)))))) ?_
            exact (T_X10_wayTo_b92 C ih) x0 x1 x5 h hyp
          · replace hyp := (if_neg q4).symm.trans hyp
            refine V_iconst (pc := 90) C dX10_wayTo_90 (v := -1) (by decide) ?_
            cases hyp
            exact V_iret C dX10_wayTo_91
      · replace hyp := (if_neg q2).symm.trans hyp
        refine V_iconst (pc := 71) C dX10_wayTo_71 (v := 1) (by decide) ?_
        cases hyp
        exact V_iret C dX10_wayTo_72
def F_X10_wayTo_b50 (N : Nat) (x0 : Int32) (x1 : Int32) (h : PH) : Option (Int32 × PH) :=
  F_X10_wayTo_b53 N N x0 x1 (1 : Int32) h
set_option maxRecDepth 20000 in
set_option maxHeartbeats 4000000 in
theorem T_X10_wayTo_b50 {X : CT} (C : CX X 103 cX10_wayTo 6 RX10 (some .int) 0 0) {r0 : Int32} {h0 : PH} {N : Nat} : ∀ (x0 : Int32) (x1 : Int32) (h : PH), F_X10_wayTo_b50 N x0 x1 h = some (r0, h0) → V X (QI X r0 h0) h 50 [some (.int x0), some (.int x1), none, none, none, none] [] := by
  intro x0 x1 h hyp
  unfold F_X10_wayTo_b50 at hyp
  refine V_iconst (pc := 50) C dX10_wayTo_50 (v := 1) (by decide) ?_
  refine V_istore (pc := 51) C dX10_wayTo_51 (by decide) rfl ?_
  refine V_weak (lv' := [some (.int x0), some (.int x1), none, none, none, some (.int (1 : Int32))]) (lvle_s (lvle_s (lvle_n (lvle_n (lvle_n (lvle_s lvle_0)))))) ?_
  exact (T_X10_wayTo_b53 C) N x0 x1 (1 : Int32) h hyp
def F_X10_wayTo_b39 (N : Nat) (x0 : Int32) (x1 : Int32) (x2 : Int32) (x4 : Int32) (h : PH) : Option (Int32 × PH) :=
  if 0 ≤ x2 then
    F_X10_wayTo_b50 N x0 x1 h
  else
    if x4 = 0 then
      F_X10_wayTo_b50 N x0 x1 h
    else
      some (x2, h)
set_option maxRecDepth 20000 in
set_option maxHeartbeats 4000000 in
theorem T_X10_wayTo_b39 {X : CT} (C : CX X 103 cX10_wayTo 6 RX10 (some .int) 0 0) {r0 : Int32} {h0 : PH} {N : Nat} : ∀ (x0 : Int32) (x1 : Int32) (x2 : Int32) (x4 : Int32) (h : PH), F_X10_wayTo_b39 N x0 x1 x2 x4 h = some (r0, h0) → V X (QI X r0 h0) h 39 [some (.int x0), some (.int x1), some (.int x2), none, some (.int x4), none] [] := by
  intro x0 x1 x2 x4 h hyp
  unfold F_X10_wayTo_b39 at hyp
  refine V_iload_n (pc := 39) C dX10_wayTo_39 rfl ?_
  refine V_if_ge (pc := 40) C dX10_wayTo_40 (tgt := 50) (by decide) (fun q1 => ?_) (fun q1 => ?_)
  · replace hyp := (if_pos q1).symm.trans hyp
    refine V_weak (lv' := [some (.int x0), some (.int x1), none, none, none, none]) (lvle_s (lvle_s (lvle_n (lvle_n (lvle_n (lvle_n lvle_0)))))) ?_
    exact (T_X10_wayTo_b50 C) x0 x1 h hyp
  · replace hyp := (if_neg q1).symm.trans hyp
    refine V_iload (pc := 43) C dX10_wayTo_43 rfl ?_
    refine V_if_eq (pc := 45) C dX10_wayTo_45 (tgt := 50) (by decide) (fun q2 => ?_) (fun q2 => ?_)
    · replace hyp := (if_pos q2).symm.trans hyp
      refine V_weak (lv' := [some (.int x0), some (.int x1), none, none, none, none]) (lvle_s (lvle_s (lvle_n (lvle_n (lvle_n (lvle_n lvle_0)))))) ?_
      exact (T_X10_wayTo_b50 C) x0 x1 h hyp
    · replace hyp := (if_neg q2).symm.trans hyp
      refine V_iload_n (pc := 48) C dX10_wayTo_48 rfl ?_
      cases hyp
      exact V_iret C dX10_wayTo_49
def F_X10_wayTo_b29 (N : Nat) (x0 : Int32) (x1 : Int32) (x2 : Int32) (x3 : Int32) (s0 : Int32) (h : PH) : Option (Int32 × PH) :=
  if x2 ≤ 0 then
    F_X10_wayTo_b39 N x0 x1 x2 s0 h
  else
    if x3 = 0 then
      F_X10_wayTo_b39 N x0 x1 x2 s0 h
    else
      some (x2, h)
set_option maxRecDepth 20000 in
set_option maxHeartbeats 4000000 in
theorem T_X10_wayTo_b29 {X : CT} (C : CX X 103 cX10_wayTo 6 RX10 (some .int) 0 0) {r0 : Int32} {h0 : PH} {N : Nat} : ∀ (x0 : Int32) (x1 : Int32) (x2 : Int32) (x3 : Int32) (s0 : Int32) (h : PH), F_X10_wayTo_b29 N x0 x1 x2 x3 s0 h = some (r0, h0) → V X (QI X r0 h0) h 29 [some (.int x0), some (.int x1), some (.int x2), some (.int x3), none, none] [.int s0] := by
  intro x0 x1 x2 x3 s0 h hyp
  unfold F_X10_wayTo_b29 at hyp
  refine V_istore (pc := 29) C dX10_wayTo_29 (by decide) rfl ?_
  refine V_iload_n (pc := 31) C dX10_wayTo_31 rfl ?_
  refine V_if_le (pc := 32) C dX10_wayTo_32 (tgt := 39) (by decide) (fun q1 => ?_) (fun q1 => ?_)
  · replace hyp := (if_pos q1).symm.trans hyp
    refine V_weak (lv' := [some (.int x0), some (.int x1), some (.int x2), none, some (.int s0), none]) (lvle_s (lvle_s (lvle_s (lvle_n (lvle_s (lvle_n lvle_0)))))) ?_
    exact (T_X10_wayTo_b39 C) x0 x1 x2 s0 h hyp
  · replace hyp := (if_neg q1).symm.trans hyp
    refine V_iload_n (pc := 35) C dX10_wayTo_35 rfl ?_
    refine V_if_ne (pc := 36) C dX10_wayTo_36 (tgt := 48) (by decide) (fun q2 => ?_) (fun q2 => ?_)
    · replace hyp := (if_neg q2).symm.trans hyp
      refine V_iload_n (pc := 48) C dX10_wayTo_48 rfl ?_
      cases hyp
      exact V_iret C dX10_wayTo_49
    · replace hyp := (if_pos q2).symm.trans hyp
      refine V_weak (lv' := [some (.int x0), some (.int x1), some (.int x2), none, some (.int s0), none]) (lvle_s (lvle_s (lvle_s (lvle_n (lvle_s (lvle_n lvle_0)))))) ?_
      exact (T_X10_wayTo_b39 C) x0 x1 x2 s0 h hyp
def F_X10_wayTo_b13 (N : Nat) (x0 : Int32) (x1 : Int32) (x2 : Int32) (s0 : Int32) (h : PH) : Option (Int32 × PH) :=
  if (x0 &&& (((1 : Int32) <<< (x1 &&& 31)) - (1 : Int32))) = 0 then
    F_X10_wayTo_b29 N x0 x1 x2 s0 (0 : Int32) h
  else
    F_X10_wayTo_b29 N x0 x1 x2 s0 (1 : Int32) h
set_option maxRecDepth 20000 in
set_option maxHeartbeats 4000000 in
theorem T_X10_wayTo_b13 {X : CT} (C : CX X 103 cX10_wayTo 6 RX10 (some .int) 0 0) {r0 : Int32} {h0 : PH} {N : Nat} : ∀ (x0 : Int32) (x1 : Int32) (x2 : Int32) (s0 : Int32) (h : PH), F_X10_wayTo_b13 N x0 x1 x2 s0 h = some (r0, h0) → V X (QI X r0 h0) h 13 [some (.int x0), some (.int x1), some (.int x2), none, none, none] [.int s0] := by
  intro x0 x1 x2 s0 h hyp
  unfold F_X10_wayTo_b13 at hyp
  refine V_istore_n (pc := 13) C dX10_wayTo_13 (by decide) rfl ?_
  refine V_iload_n (pc := 14) C dX10_wayTo_14 rfl ?_
  refine V_iconst (pc := 15) C dX10_wayTo_15 (v := 1) (by decide) ?_
  refine V_iload_n (pc := 16) C dX10_wayTo_16 rfl ?_
  refine V_ishl (pc := 17) C dX10_wayTo_17 ?_
  refine V_iconst (pc := 18) C dX10_wayTo_18 (v := 1) (by decide) ?_
  refine V_isub (pc := 19) C dX10_wayTo_19 ?_
  refine V_iand (pc := 20) C dX10_wayTo_20 ?_
  refine V_if_eq (pc := 21) C dX10_wayTo_21 (tgt := 28) (by decide) (fun q1 => ?_) (fun q1 => ?_)
  · replace hyp := (if_pos q1).symm.trans hyp
    refine V_iconst (pc := 28) C dX10_wayTo_28 (v := 0) (by decide) ?_
    refine V_weak (lv' := [some (.int x0), some (.int x1), some (.int x2), some (.int s0), none, none]) (lvle_s (lvle_s (lvle_s (lvle_s (lvle_n (lvle_n lvle_0)))))) ?_
    exact (T_X10_wayTo_b29 C) x0 x1 x2 s0 (0 : Int32) h hyp
  · replace hyp := (if_neg q1).symm.trans hyp
    refine V_iconst (pc := 24) C dX10_wayTo_24 (v := 1) (by decide) ?_
    refine V_goto (pc := 25) C dX10_wayTo_25 (tgt := 29) (by decide) ?_
    refine V_weak (lv' := [some (.int x0), some (.int x1), some (.int x2), some (.int s0), none, none]) (lvle_s (lvle_s (lvle_s (lvle_s (lvle_n (lvle_n lvle_0)))))) ?_
    exact (T_X10_wayTo_b29 C) x0 x1 x2 s0 (1 : Int32) h hyp
def F_X10_wayTo (N : Nat) (a1 : Int32) (a2 : Int32) (a3 : Int32) (h : PH) : Option (Int32 × PH) :=
  if (a1 >>> ((a2 + (1 : Int32)) &&& 31)) = 0 then
    F_X10_wayTo_b13 N a1 a2 a3 (0 : Int32) h
  else
    F_X10_wayTo_b13 N a1 a2 a3 (1 : Int32) h
set_option maxRecDepth 20000 in
set_option maxHeartbeats 4000000 in
theorem M_X10_wayTo (E : EV) {N : Nat} {a1 : Int32} {a2 : Int32} {a3 : Int32} {r : Int32} {h h2 : PH} (hyp : F_X10_wayTo N a1 a2 a3 h = some (r, h2)) : MI E 103 yX10_wayTo cX10_wayTo 6 (some .int) 0 0 [.int a1, .int a2, .int a3] h r h2 := by
  refine MI.of 3 (by decide) rfl (fun X e1 C => ?_)
  subst e1
  replace C : CX X 103 cX10_wayTo 6 RX10 (some .int) 0 0 := C
  show V X _ h 0 [some (.int a1), some (.int a2), some (.int a3), none, none, none] []
  unfold F_X10_wayTo at hyp
  refine V_iload_n (pc := 0) C dX10_wayTo_0 rfl ?_
  refine V_iload_n (pc := 1) C dX10_wayTo_1 rfl ?_
  refine V_iconst (pc := 2) C dX10_wayTo_2 (v := 1) (by decide) ?_
  refine V_iadd (pc := 3) C dX10_wayTo_3 ?_
  refine V_ishr (pc := 4) C dX10_wayTo_4 ?_
  refine V_if_eq (pc := 5) C dX10_wayTo_5 (tgt := 12) (by decide) (fun q1 => ?_) (fun q1 => ?_)
  · replace hyp := (if_pos q1).symm.trans hyp
    refine V_iconst (pc := 12) C dX10_wayTo_12 (v := 0) (by decide) ?_
    refine V_weak (lv' := [some (.int a1), some (.int a2), some (.int a3), none, none, none]) (lvle_s (lvle_s (lvle_s (lvle_n (lvle_n (lvle_n lvle_0)))))) ?_
    exact (T_X10_wayTo_b13 C) a1 a2 a3 (0 : Int32) h hyp
  · replace hyp := (if_neg q1).symm.trans hyp
    refine V_iconst (pc := 8) C dX10_wayTo_8 (v := 1) (by decide) ?_
    refine V_goto (pc := 9) C dX10_wayTo_9 (tgt := 13) (by decide) ?_
    refine V_weak (lv' := [some (.int a1), some (.int a2), some (.int a3), none, none, none]) (lvle_s (lvle_s (lvle_s (lvle_n (lvle_n (lvle_n lvle_0)))))) ?_
    exact (T_X10_wayTo_b13 C) a1 a2 a3 (1 : Int32) h hyp
theorem dX10_go_0 : decode cX10_go 0 = .ok (.aload_n 0, 1) := by decide +kernel
theorem dX10_go_1 : decode cX10_go 1 = .ok (.getfield 41, 3) := by decide +kernel
theorem dX10_go_4 : decode cX10_go 4 = .ok (.iload_n 1, 1) := by decide +kernel
theorem dX10_go_5 : decode cX10_go 5 = .ok (.iaload, 1) := by decide +kernel
theorem dX10_go_6 : decode cX10_go 6 = .ok (.aload_n 0, 1) := by decide +kernel
theorem dX10_go_7 : decode cX10_go 7 = .ok (.getfield 44, 3) := by decide +kernel
theorem dX10_go_10 : decode cX10_go 10 = .ok (.iload_n 1, 1) := by decide +kernel
theorem dX10_go_11 : decode cX10_go 11 = .ok (.iaload, 1) := by decide +kernel
theorem dX10_go_12 : decode cX10_go 12 = .ok (.ior, 1) := by decide +kernel
theorem dX10_go_13 : decode cX10_go 13 = .ok (.ifCond .ne 34, 3) := by decide +kernel
theorem dX10_go_16 : decode cX10_go 16 = .ok (.aload_n 0, 1) := by decide +kernel
theorem dX10_go_17 : decode cX10_go 17 = .ok (.getfield 35, 3) := by decide +kernel
theorem dX10_go_20 : decode cX10_go 20 = .ok (.iload_n 1, 1) := by decide +kernel
theorem dX10_go_21 : decode cX10_go 21 = .ok (.iconst 0, 1) := by decide +kernel
theorem dX10_go_22 : decode cX10_go 22 = .ok (.iastore, 1) := by decide +kernel
theorem dX10_go_23 : decode cX10_go 23 = .ok (.aload_n 0, 1) := by decide +kernel
theorem dX10_go_24 : decode cX10_go 24 = .ok (.iload_n 1, 1) := by decide +kernel
theorem dX10_go_25 : decode cX10_go 25 = .ok (.aload_n 0, 1) := by decide +kernel
theorem dX10_go_26 : decode cX10_go 26 = .ok (.getfield 57, 3) := by decide +kernel
theorem dX10_go_29 : decode cX10_go 29 = .ok (.getfield 217, 3) := by decide +kernel
theorem dX10_go_32 : decode cX10_go 32 = .ok (.aload_n 0, 1) := by decide +kernel
theorem dX10_go_33 : decode cX10_go 33 = .ok (.getfield 32, 3) := by decide +kernel
theorem dX10_go_36 : decode cX10_go 36 = .ok (.iload_n 1, 1) := by decide +kernel
theorem dX10_go_37 : decode cX10_go 37 = .ok (.iaload, 1) := by decide +kernel
theorem dX10_go_38 : decode cX10_go 38 = .ok (.invokestatic 220, 3) := by decide +kernel
theorem dX10_go_41 : decode cX10_go 41 = .ok (.invokevirtual 201, 3) := by decide +kernel
theorem dX10_go_44 : decode cX10_go 44 = .ok (.goto 45, 3) := by decide +kernel
theorem dX10_go_47 : decode cX10_go 47 = .ok (.aload_n 0, 1) := by decide +kernel
theorem dX10_go_48 : decode cX10_go 48 = .ok (.getfield 35, 3) := by decide +kernel
theorem dX10_go_51 : decode cX10_go 51 = .ok (.iload_n 1, 1) := by decide +kernel
theorem dX10_go_52 : decode cX10_go 52 = .ok (.aload_n 0, 1) := by decide +kernel
theorem dX10_go_53 : decode cX10_go 53 = .ok (.iload_n 1, 1) := by decide +kernel
theorem dX10_go_54 : decode cX10_go 54 = .ok (.aload_n 0, 1) := by decide +kernel
theorem dX10_go_55 : decode cX10_go 55 = .ok (.iload_n 1, 1) := by decide +kernel
theorem dX10_go_56 : decode cX10_go 56 = .ok (.invokevirtual 150, 3) := by decide +kernel
theorem dX10_go_59 : decode cX10_go 59 = .ok (.invokevirtual 153, 3) := by decide +kernel
theorem dX10_go_62 : decode cX10_go 62 = .ok (.aload_n 0, 1) := by decide +kernel
theorem dX10_go_63 : decode cX10_go 63 = .ok (.getfield 32, 3) := by decide +kernel
theorem dX10_go_66 : decode cX10_go 66 = .ok (.iload_n 1, 1) := by decide +kernel
theorem dX10_go_67 : decode cX10_go 67 = .ok (.iaload, 1) := by decide +kernel
theorem dX10_go_68 : decode cX10_go 68 = .ok (.aload_n 0, 1) := by decide +kernel
theorem dX10_go_69 : decode cX10_go 69 = .ok (.getfield 35, 3) := by decide +kernel
theorem dX10_go_72 : decode cX10_go 72 = .ok (.iload_n 1, 1) := by decide +kernel
theorem dX10_go_73 : decode cX10_go 73 = .ok (.iaload, 1) := by decide +kernel
theorem dX10_go_74 : decode cX10_go 74 = .ok (.invokestatic 223, 3) := by decide +kernel
theorem dX10_go_77 : decode cX10_go 77 = .ok (.iastore, 1) := by decide +kernel
theorem dX10_go_78 : decode cX10_go 78 = .ok (.aload_n 0, 1) := by decide +kernel
theorem dX10_go_79 : decode cX10_go 79 = .ok (.iload_n 1, 1) := by decide +kernel
theorem dX10_go_80 : decode cX10_go 80 = .ok (.aload_n 0, 1) := by decide +kernel
theorem dX10_go_81 : decode cX10_go 81 = .ok (.getfield 35, 3) := by decide +kernel
theorem dX10_go_84 : decode cX10_go 84 = .ok (.iload_n 1, 1) := by decide +kernel
theorem dX10_go_85 : decode cX10_go 85 = .ok (.iaload, 1) := by decide +kernel
theorem dX10_go_86 : decode cX10_go 86 = .ok (.invokevirtual 201, 3) := by decide +kernel
theorem dX10_go_89 : decode cX10_go 89 = .ok (.return_, 1) := by decide +kernel
def F_X10_go (N : Nat) (o : Nat) (a1 : Int32) (h : PH) : Option PH :=
  if inb a1 2 = true then
  if ((h.1 (o + 12) a1.toNatClampNeg) ||| (h.1 (o + 13) a1.toNatClampNeg)) = 0 then
    if inb a1 2 = true then
    hb (hs h (o + 10) a1.toNatClampNeg (0 : Int32)) fun h14 =>
    bI (F_J6_compare_7cf53 (h14.1 51 11) (h14.1 (o + 9) a1.toNatClampNeg) h14) fun r15 h16 =>
    bV (F_X10_move o a1 r15 h16) fun h18 =>
    some h18
    else none
  else
    bI (F_X10_hasRoom o a1 h) fun r3 h4 =>
    bI (F_X10_goalsOf N o a1 r3 h4) fun r5 h6 =>
    if inb a1 2 = true then
    bI (F_X10_wayTo N r5 (h6.1 (o + 9) a1.toNatClampNeg) (h6.1 (o + 10) a1.toNatClampNeg) h6) fun r8 h9 =>
    hb (hs h9 (o + 10) a1.toNatClampNeg r8) fun h10 =>
    bV (F_X10_move o a1 (h10.1 (o + 10) a1.toNatClampNeg) h10) fun h12 =>
    some h12
    else none
  else none
set_option maxRecDepth 20000 in
set_option maxHeartbeats 4000000 in
theorem M_X10_go (E : EV) {N : Nat} {o : Nat} {a1 : Int32} (ho : IST o) {h h2 : PH} (hyp : F_X10_go N o a1 h = some h2) : MV E 103 yX10_go cX10_go 2 none 2 44 [.ref o, .int a1] h h2 := by
  refine MV.of 0 (by decide) rfl (fun X e1 C => ?_)
  subst e1
  replace C : CX X 103 cX10_go 2 RX10 none 2 44 := C
  show V X _ h 0 [some (.ref o), some (.int a1)] []
  unfold F_X10_go at hyp
  refine V_aload_n (pc := 0) C dX10_go_0 rfl ?_
  refine V_getR (pc := 1) C dX10_go_1 lf_X10_41 (fkT_13 ho) ?_
  refine V_iload_n (pc := 4) C dX10_go_4 rfl ?_
  obtain ⟨g1, hyp⟩ := gd_n hyp
  refine V_iald (pc := 5) C dX10_go_5 (akT_12 ho) g1 ?_
  refine V_aload_n (pc := 6) C dX10_go_6 rfl ?_
  refine V_getR (pc := 7) C dX10_go_7 lf_X10_44 (fkT_14 ho) ?_
  refine V_iload_n (pc := 10) C dX10_go_10 rfl ?_
  refine V_iald (pc := 11) C dX10_go_11 (akT_13 ho) g1 ?_
  refine V_ior (pc := 12) C dX10_go_12 ?_
  refine V_if_ne (pc := 13) C dX10_go_13 (tgt := 47) (by decide) (fun q2 => ?_) (fun q2 => ?_)
  · replace hyp := (if_neg q2).symm.trans hyp
    refine V_aload_n (pc := 47) C dX10_go_47 rfl ?_
    refine V_getR (pc := 48) C dX10_go_48 lf_X10_35 (fkT_11 ho) ?_
    refine V_iload_n (pc := 51) C dX10_go_51 rfl ?_
    refine V_aload_n (pc := 52) C dX10_go_52 rfl ?_
    refine V_iload_n (pc := 53) C dX10_go_53 rfl ?_
    refine V_aload_n (pc := 54) C dX10_go_54 rfl ?_
    refine V_iload_n (pc := 55) C dX10_go_55 rfl ?_
    obtain ⟨r3, h4, eh4, hyp⟩ := bI_n hyp
    refine V_callI (pc := 56) C dX10_go_56 lm_X10_150 mk_X10_hasRoom (okT ho) rfl (M_X10_hasRoom _ ho eh4) rfl pd_X10_hasRoom (by decide) (by decide) (by decide) (As := [.int a1]) (rest := [.int a1, .ref o, .int a1, .ref (o + 10)]) rfl (Nat.le_of_ble_eq_true rfl) ?_
    obtain ⟨r5, h6, eh6, hyp⟩ := bI_n hyp
    refine V_callI (pc := 59) C dX10_go_59 lm_X10_153 mk_X10_goalsOf (okT ho) rfl (M_X10_goalsOf _ ho eh6) rfl pd_X10_goalsOf (by decide) (by decide) (by decide) (As := [.int a1, .int r3]) (rest := [.int a1, .ref (o + 10)]) rfl (Nat.le_of_ble_eq_true rfl) ?_
    refine V_aload_n (pc := 62) C dX10_go_62 rfl ?_
    refine V_getR (pc := 63) C dX10_go_63 lf_X10_32 (fkT_10 ho) ?_
    refine V_iload_n (pc := 66) C dX10_go_66 rfl ?_
    obtain ⟨g7, hyp⟩ := gd_n hyp
    refine V_iald (pc := 67) C dX10_go_67 (akT_9 ho) g7 ?_
    refine V_aload_n (pc := 68) C dX10_go_68 rfl ?_
    refine V_getR (pc := 69) C dX10_go_69 lf_X10_35 (fkT_11 ho) ?_
    refine V_iload_n (pc := 72) C dX10_go_72 rfl ?_
    refine V_iald (pc := 73) C dX10_go_73 (akT_10 ho) g7 ?_
    obtain ⟨r8, h9, eh9, hyp⟩ := bI_n hyp
    refine V_statI (pc := 74) C dX10_go_74 lm_X10_223 ms_X10_wayTo (M_X10_wayTo _ eh9) rfl pd_X10_wayTo (by decide) (by decide) (by decide) (As := [.int r5, .int (h6.1 (o + 9) a1.toNatClampNeg), .int (h6.1 (o + 10) a1.toNatClampNeg)]) (rest := [.int a1, .ref (o + 10)]) rfl (Nat.le_of_ble_eq_true rfl) ?_
    obtain ⟨h10, eh10, hyp⟩ := hb_n hyp
    refine V_iast (pc := 77) C dX10_go_77 (akT_10 ho) g7 eh10 ?_
    refine V_aload_n (pc := 78) C dX10_go_78 rfl ?_
    refine V_iload_n (pc := 79) C dX10_go_79 rfl ?_
    refine V_aload_n (pc := 80) C dX10_go_80 rfl ?_
    refine V_getR (pc := 81) C dX10_go_81 lf_X10_35 (fkT_11 ho) ?_
    refine V_iload_n (pc := 84) C dX10_go_84 rfl ?_
    refine V_iald (pc := 85) C dX10_go_85 (akT_10 ho) g7 ?_
    obtain ⟨h12, eh12, hyp⟩ := bV_n hyp
    refine V_callV (pc := 86) C dX10_go_86 lm_X10_201 mk_X10_move (okT ho) rfl (M_X10_move _ ho eh12) rfl pd_X10_move (by decide) (by decide) (by decide) (As := [.int a1, .int (h10.1 (o + 10) a1.toNatClampNeg)]) (rest := []) rfl (Nat.le_of_ble_eq_true rfl) ?_
    cases hyp
    exact V_vret C dX10_go_89
  · replace hyp := (if_pos q2).symm.trans hyp
    refine V_aload_n (pc := 16) C dX10_go_16 rfl ?_
    refine V_getR (pc := 17) C dX10_go_17 lf_X10_35 (fkT_11 ho) ?_
    refine V_iload_n (pc := 20) C dX10_go_20 rfl ?_
    refine V_iconst (pc := 21) C dX10_go_21 (v := 0) (by decide) ?_
    obtain ⟨g13, hyp⟩ := gd_n hyp
    obtain ⟨h14, eh14, hyp⟩ := hb_n hyp
    refine V_iast (pc := 22) C dX10_go_22 (akT_10 ho) g13 eh14 ?_
    refine V_aload_n (pc := 23) C dX10_go_23 rfl ?_
    refine V_iload_n (pc := 24) C dX10_go_24 rfl ?_
    refine V_aload_n (pc := 25) C dX10_go_25 rfl ?_
    refine V_getR (pc := 26) C dX10_go_26 lf_X10_57 (fkT_9 ho) ?_
    refine V_getI (pc := 29) C dX10_go_29 lf_X10_217 fk_51_11 ?_
    refine V_aload_n (pc := 32) C dX10_go_32 rfl ?_
    refine V_getR (pc := 33) C dX10_go_33 lf_X10_32 (fkT_10 ho) ?_
    refine V_iload_n (pc := 36) C dX10_go_36 rfl ?_
    refine V_iald (pc := 37) C dX10_go_37 (akT_9 ho) g13 ?_
    obtain ⟨r15, h16, eh16, hyp⟩ := bI_n hyp
    refine V_statI (pc := 38) C dX10_go_38 lm_X10_220 ms_J6_compare_7cf53 (M_J6_compare_7cf53 _ eh16) rfl pd_J6_compare_7cf53 (by decide) (by decide) (by decide) (As := [.int (h14.1 51 11), .int (h14.1 (o + 9) a1.toNatClampNeg)]) (rest := [.int a1, .ref o]) rfl (Nat.le_of_ble_eq_true rfl) ?_
    obtain ⟨h18, eh18, hyp⟩ := bV_n hyp
    refine V_callV (pc := 41) C dX10_go_41 lm_X10_201 mk_X10_move (okT ho) rfl (M_X10_move _ ho eh18) rfl pd_X10_move (by decide) (by decide) (by decide) (As := [.int a1, .int r15]) (rest := []) rfl (Nat.le_of_ble_eq_true rfl) ?_
    refine V_goto (pc := 44) C dX10_go_44 (tgt := 89) (by decide) ?_
    cases hyp
    exact V_vret C dX10_go_89
theorem dX10_act_0 : decode cX10_act 0 = .ok (.aload_n 0, 1) := by decide +kernel
theorem dX10_act_1 : decode cX10_act 1 = .ok (.getfield 38, 3) := by decide +kernel
theorem dX10_act_4 : decode cX10_act 4 = .ok (.iload_n 1, 1) := by decide +kernel
theorem dX10_act_5 : decode cX10_act 5 = .ok (.iaload, 1) := by decide +kernel
theorem dX10_act_6 : decode cX10_act 6 = .ok (.ifCond .le 16, 3) := by decide +kernel
theorem dX10_act_9 : decode cX10_act 9 = .ok (.aload_n 0, 1) := by decide +kernel
theorem dX10_act_10 : decode cX10_act 10 = .ok (.getfield 38, 3) := by decide +kernel
theorem dX10_act_13 : decode cX10_act 13 = .ok (.iload_n 1, 1) := by decide +kernel
theorem dX10_act_14 : decode cX10_act 14 = .ok (.dup2, 1) := by decide +kernel
theorem dX10_act_15 : decode cX10_act 15 = .ok (.iaload, 1) := by decide +kernel
theorem dX10_act_16 : decode cX10_act 16 = .ok (.iconst 1, 1) := by decide +kernel
theorem dX10_act_17 : decode cX10_act 17 = .ok (.isub, 1) := by decide +kernel
theorem dX10_act_18 : decode cX10_act 18 = .ok (.iastore, 1) := by decide +kernel
theorem dX10_act_19 : decode cX10_act 19 = .ok (.goto 45, 3) := by decide +kernel
theorem dX10_act_22 : decode cX10_act 22 = .ok (.aload_n 0, 1) := by decide +kernel
theorem dX10_act_23 : decode cX10_act 23 = .ok (.getfield 57, 3) := by decide +kernel
theorem dX10_act_26 : decode cX10_act 26 = .ok (.iload_n 2, 1) := by decide +kernel
theorem dX10_act_27 : decode cX10_act 27 = .ok (.invokevirtual 77, 3) := by decide +kernel
theorem dX10_act_30 : decode cX10_act 30 = .ok (.ifCond .eq 12, 3) := by decide +kernel
theorem dX10_act_33 : decode cX10_act 33 = .ok (.aload_n 0, 1) := by decide +kernel
theorem dX10_act_34 : decode cX10_act 34 = .ok (.iload_n 1, 1) := by decide +kernel
theorem dX10_act_35 : decode cX10_act 35 = .ok (.iload_n 2, 1) := by decide +kernel
theorem dX10_act_36 : decode cX10_act 36 = .ok (.invokevirtual 189, 3) := by decide +kernel
theorem dX10_act_39 : decode cX10_act 39 = .ok (.goto 25, 3) := by decide +kernel
theorem dX10_act_42 : decode cX10_act 42 = .ok (.aload_n 0, 1) := by decide +kernel
theorem dX10_act_43 : decode cX10_act 43 = .ok (.iload_n 1, 1) := by decide +kernel
theorem dX10_act_44 : decode cX10_act 44 = .ok (.invokevirtual 192, 3) := by decide +kernel
theorem dX10_act_47 : decode cX10_act 47 = .ok (.ifCond .eq 12, 3) := by decide +kernel
theorem dX10_act_50 : decode cX10_act 50 = .ok (.aload_n 0, 1) := by decide +kernel
theorem dX10_act_51 : decode cX10_act 51 = .ok (.iload_n 1, 1) := by decide +kernel
theorem dX10_act_52 : decode cX10_act 52 = .ok (.iload_n 2, 1) := by decide +kernel
theorem dX10_act_53 : decode cX10_act 53 = .ok (.invokevirtual 195, 3) := by decide +kernel
theorem dX10_act_56 : decode cX10_act 56 = .ok (.goto 8, 3) := by decide +kernel
theorem dX10_act_59 : decode cX10_act 59 = .ok (.aload_n 0, 1) := by decide +kernel
theorem dX10_act_60 : decode cX10_act 60 = .ok (.iload_n 1, 1) := by decide +kernel
theorem dX10_act_61 : decode cX10_act 61 = .ok (.invokevirtual 198, 3) := by decide +kernel
theorem dX10_act_64 : decode cX10_act 64 = .ok (.return_, 1) := by decide +kernel
def F_X10_act (N : Nat) (o : Nat) (a1 : Int32) (a2 : Int32) (h : PH) : Option PH :=
  if inb a1 2 = true then
  if (h.1 (o + 11) a1.toNatClampNeg) ≤ 0 then
    bI (F_X6_burns a2 h) fun r3 h4 =>
    if r3 = 0 then
      bI (F_X10_stopsHere o a1 h4) fun r6 h7 =>
      if r6 = 0 then
        bV (F_X10_go N o a1 h7) fun h10 =>
        some h10
      else
        bV (F_X10_stop N o a1 a2 h7) fun h12 =>
        some h12
    else
      bV (F_X10_flee N o a1 a2 h4) fun h14 =>
      some h14
  else
    if inb a1 2 = true then
    hb (hs h (o + 11) a1.toNatClampNeg ((h.1 (o + 11) a1.toNatClampNeg) - (1 : Int32))) fun h16 =>
    some h16
    else none
  else none
set_option maxRecDepth 20000 in
set_option maxHeartbeats 4000000 in
theorem M_X10_act (E : EV) {N : Nat} {o : Nat} {a1 : Int32} {a2 : Int32} (ho : IST o) {h h2 : PH} (hyp : F_X10_act N o a1 a2 h = some h2) : MV E 103 yX10_act cX10_act 3 none 3 66 [.ref o, .int a1, .int a2] h h2 := by
  refine MV.of 0 (by decide) rfl (fun X e1 C => ?_)
  subst e1
  replace C : CX X 103 cX10_act 3 RX10 none 3 66 := C
  show V X _ h 0 [some (.ref o), some (.int a1), some (.int a2)] []
  unfold F_X10_act at hyp
  refine V_aload_n (pc := 0) C dX10_act_0 rfl ?_
  refine V_getR (pc := 1) C dX10_act_1 lf_X10_38 (fkT_12 ho) ?_
  refine V_iload_n (pc := 4) C dX10_act_4 rfl ?_
  obtain ⟨g1, hyp⟩ := gd_n hyp
  refine V_iald (pc := 5) C dX10_act_5 (akT_11 ho) g1 ?_
  refine V_if_le (pc := 6) C dX10_act_6 (tgt := 22) (by decide) (fun q2 => ?_) (fun q2 => ?_)
  · replace hyp := (if_pos q2).symm.trans hyp
    refine V_aload_n (pc := 22) C dX10_act_22 rfl ?_
    refine V_getR (pc := 23) C dX10_act_23 lf_X10_57 (fkT_9 ho) ?_
    refine V_iload_n (pc := 26) C dX10_act_26 rfl ?_
    obtain ⟨r3, h4, eh4, hyp⟩ := bI_n hyp
    refine V_callI (pc := 27) C dX10_act_27 lm_X10_77 mk_X6_burns ok_51 rfl (M_X6_burns _ eh4) rfl pd_X6_burns (by decide) (by decide) (by decide) (As := [.int a2]) (rest := []) rfl (Nat.le_of_ble_eq_true rfl) ?_
    refine V_if_eq (pc := 30) C dX10_act_30 (tgt := 42) (by decide) (fun q5 => ?_) (fun q5 => ?_)
    · replace hyp := (if_pos q5).symm.trans hyp
      refine V_aload_n (pc := 42) C dX10_act_42 rfl ?_
      refine V_iload_n (pc := 43) C dX10_act_43 rfl ?_
      obtain ⟨r6, h7, eh7, hyp⟩ := bI_n hyp
      refine V_callI (pc := 44) C dX10_act_44 lm_X10_192 mk_X10_stopsHere (okT ho) rfl (M_X10_stopsHere _ ho eh7) rfl pd_X10_stopsHere (by decide) (by decide) (by decide) (As := [.int a1]) (rest := []) rfl (Nat.le_of_ble_eq_true rfl) ?_
      refine V_if_eq (pc := 47) C dX10_act_47 (tgt := 59) (by decide) (fun q8 => ?_) (fun q8 => ?_)
      · replace hyp := (if_pos q8).symm.trans hyp
        refine V_aload_n (pc := 59) C dX10_act_59 rfl ?_
        refine V_iload_n (pc := 60) C dX10_act_60 rfl ?_
        obtain ⟨h10, eh10, hyp⟩ := bV_n hyp
        refine V_callV (pc := 61) C dX10_act_61 lm_X10_198 mk_X10_go (okT ho) rfl (M_X10_go _ ho eh10) rfl pd_X10_go (by decide) (by decide) (by decide) (As := [.int a1]) (rest := []) rfl (Nat.le_of_ble_eq_true rfl) ?_
        cases hyp
        exact V_vret C dX10_act_64
      · replace hyp := (if_neg q8).symm.trans hyp
        refine V_aload_n (pc := 50) C dX10_act_50 rfl ?_
        refine V_iload_n (pc := 51) C dX10_act_51 rfl ?_
        refine V_iload_n (pc := 52) C dX10_act_52 rfl ?_
        obtain ⟨h12, eh12, hyp⟩ := bV_n hyp
        refine V_callV (pc := 53) C dX10_act_53 lm_X10_195 mk_X10_stop (okT ho) rfl (M_X10_stop _ ho eh12) rfl pd_X10_stop (by decide) (by decide) (by decide) (As := [.int a1, .int a2]) (rest := []) rfl (Nat.le_of_ble_eq_true rfl) ?_
        refine V_goto (pc := 56) C dX10_act_56 (tgt := 64) (by decide) ?_
        cases hyp
        exact V_vret C dX10_act_64
    · replace hyp := (if_neg q5).symm.trans hyp
      refine V_aload_n (pc := 33) C dX10_act_33 rfl ?_
      refine V_iload_n (pc := 34) C dX10_act_34 rfl ?_
      refine V_iload_n (pc := 35) C dX10_act_35 rfl ?_
      obtain ⟨h14, eh14, hyp⟩ := bV_n hyp
      refine V_callV (pc := 36) C dX10_act_36 lm_X10_189 mk_X10_flee (okT ho) rfl (M_X10_flee _ ho eh14) rfl pd_X10_flee (by decide) (by decide) (by decide) (As := [.int a1, .int a2]) (rest := []) rfl (Nat.le_of_ble_eq_true rfl) ?_
      refine V_goto (pc := 39) C dX10_act_39 (tgt := 64) (by decide) ?_
      cases hyp
      exact V_vret C dX10_act_64
  · replace hyp := (if_neg q2).symm.trans hyp
    refine V_aload_n (pc := 9) C dX10_act_9 rfl ?_
    refine V_getR (pc := 10) C dX10_act_10 lf_X10_38 (fkT_12 ho) ?_
    refine V_iload_n (pc := 13) C dX10_act_13 rfl ?_
    refine V_dup2 (pc := 14) C dX10_act_14 rfl rfl ?_
    obtain ⟨g15, hyp⟩ := gd_n hyp
    refine V_iald (pc := 15) C dX10_act_15 (akT_11 ho) g15 ?_
    refine V_iconst (pc := 16) C dX10_act_16 (v := 1) (by decide) ?_
    refine V_isub (pc := 17) C dX10_act_17 ?_
    obtain ⟨h16, eh16, hyp⟩ := hb_n hyp
    refine V_iast (pc := 18) C dX10_act_18 (akT_11 ho) g15 eh16 ?_
    refine V_goto (pc := 19) C dX10_act_19 (tgt := 64) (by decide) ?_
    cases hyp
    exact V_vret C dX10_act_64
theorem dX10_allHome_0 : decode cX10_allHome 0 = .ok (.iconst 0, 1) := by decide +kernel
theorem dX10_allHome_1 : decode cX10_allHome 1 = .ok (.istore_n 1, 1) := by decide +kernel
theorem dX10_allHome_2 : decode cX10_allHome 2 = .ok (.iload_n 1, 1) := by decide +kernel
theorem dX10_allHome_3 : decode cX10_allHome 3 = .ok (.aload_n 0, 1) := by decide +kernel
theorem dX10_allHome_4 : decode cX10_allHome 4 = .ok (.getfield 95, 3) := by decide +kernel
theorem dX10_allHome_7 : decode cX10_allHome 7 = .ok (.if_icmp .ge 29, 3) := by decide +kernel
theorem dX10_allHome_10 : decode cX10_allHome 10 = .ok (.aload_n 0, 1) := by decide +kernel
theorem dX10_allHome_11 : decode cX10_allHome 11 = .ok (.getfield 41, 3) := by decide +kernel
theorem dX10_allHome_14 : decode cX10_allHome 14 = .ok (.iload_n 1, 1) := by decide +kernel
theorem dX10_allHome_15 : decode cX10_allHome 15 = .ok (.iaload, 1) := by decide +kernel
theorem dX10_allHome_16 : decode cX10_allHome 16 = .ok (.ifCond .ne 12, 3) := by decide +kernel
theorem dX10_allHome_19 : decode cX10_allHome 19 = .ok (.aload_n 0, 1) := by decide +kernel
theorem dX10_allHome_20 : decode cX10_allHome 20 = .ok (.getfield 32, 3) := by decide +kernel
theorem dX10_allHome_23 : decode cX10_allHome 23 = .ok (.iload_n 1, 1) := by decide +kernel
theorem dX10_allHome_24 : decode cX10_allHome 24 = .ok (.iaload, 1) := by decide +kernel
theorem dX10_allHome_25 : decode cX10_allHome 25 = .ok (.ifCond .eq 5, 3) := by decide +kernel
theorem dX10_allHome_28 : decode cX10_allHome 28 = .ok (.iconst 0, 1) := by decide +kernel
theorem dX10_allHome_29 : decode cX10_allHome 29 = .ok (.ireturn, 1) := by decide +kernel
theorem dX10_allHome_30 : decode cX10_allHome 30 = .ok (.iinc 1 1, 3) := by decide +kernel
theorem dX10_allHome_33 : decode cX10_allHome 33 = .ok (.goto (-31), 3) := by decide +kernel
theorem dX10_allHome_36 : decode cX10_allHome 36 = .ok (.iconst 1, 1) := by decide +kernel
theorem dX10_allHome_37 : decode cX10_allHome 37 = .ok (.ireturn, 1) := by decide +kernel
def F_X10_allHome_b2 (N : Nat) (o : Nat) : Nat → Int32 → PH → Option (Int32 × PH)
  | 0, _, _ => none
  | n + 1, x1, h =>
    if (h.1 o 6) ≤ x1 then
      some ((1 : Int32), h)
    else
      if inb x1 2 = true then
      if (h.1 (o + 12) x1.toNatClampNeg) = 0 then
        if inb x1 2 = true then
        if (h.1 (o + 9) x1.toNatClampNeg) = 0 then
          ib (x1 + (1 : Int32)) fun v6 =>
          F_X10_allHome_b2 N o n v6 h
        else
          some ((0 : Int32), h)
        else none
      else
        some ((0 : Int32), h)
      else none
set_option maxRecDepth 20000 in
set_option maxHeartbeats 4000000 in
theorem T_X10_allHome_b2 {X : CT} (C : CX X 103 cX10_allHome 2 RX10 (some .boolean) 0 0) {r0 : Int32} {h0 : PH} {N : Nat} {o : Nat} (ho : IST o) : ∀ (n : Nat) (x1 : Int32) (h : PH), F_X10_allHome_b2 N o n x1 h = some (r0, h0) → V X (QI X r0 h0) h 2 [some (.ref o), some (.int x1)] [] := by
  intro n
  induction n with
  | zero =>
    intro x1 h hyp
    cases hyp
  | succ n ih =>
    intro x1 h hyp
    unfold F_X10_allHome_b2 at hyp
    refine V_iload_n (pc := 2) C dX10_allHome_2 rfl ?_
    refine V_aload_n (pc := 3) C dX10_allHome_3 rfl ?_
    refine V_getI (pc := 4) C dX10_allHome_4 lf_X10_95 (fkT_6 ho) ?_
    refine V_icmp_ge (pc := 7) C dX10_allHome_7 (tgt := 36) (by decide) (fun q1 => ?_) (fun q1 => ?_)
    · replace hyp := (if_pos q1).symm.trans hyp
      refine V_iconst (pc := 36) C dX10_allHome_36 (v := 1) (by decide) ?_
      cases hyp
      exact V_zret C dX10_allHome_37 rfl
    · replace hyp := (if_neg q1).symm.trans hyp
      refine V_aload_n (pc := 10) C dX10_allHome_10 rfl ?_
      refine V_getR (pc := 11) C dX10_allHome_11 lf_X10_41 (fkT_13 ho) ?_
      refine V_iload_n (pc := 14) C dX10_allHome_14 rfl ?_
      obtain ⟨g2, hyp⟩ := gd_n hyp
      refine V_iald (pc := 15) C dX10_allHome_15 (akT_12 ho) g2 ?_
      refine V_if_ne (pc := 16) C dX10_allHome_16 (tgt := 28) (by decide) (fun q3 => ?_) (fun q3 => ?_)
      · replace hyp := (if_neg q3).symm.trans hyp
        refine V_iconst (pc := 28) C dX10_allHome_28 (v := 0) (by decide) ?_
        cases hyp
        exact V_zret C dX10_allHome_29 rfl
      · replace hyp := (if_pos q3).symm.trans hyp
        refine V_aload_n (pc := 19) C dX10_allHome_19 rfl ?_
        refine V_getR (pc := 20) C dX10_allHome_20 lf_X10_32 (fkT_10 ho) ?_
        refine V_iload_n (pc := 23) C dX10_allHome_23 rfl ?_
        obtain ⟨g4, hyp⟩ := gd_n hyp
        refine V_iald (pc := 24) C dX10_allHome_24 (akT_9 ho) g4 ?_
        refine V_if_eq (pc := 25) C dX10_allHome_25 (tgt := 30) (by decide) (fun q5 => ?_) (fun q5 => ?_)
        · replace hyp := (if_pos q5).symm.trans hyp
          obtain ⟨v6, ev6, hyp⟩ := ib_n hyp
          refine V_iinc (pc := 30) C dX10_allHome_30 (v := v6) rfl (by rw [ev6]; rfl) (by decide) rfl ?_
          refine V_goto (pc := 33) C dX10_allHome_33 (tgt := 2) (by decide) ?_
          refine V_weak (lv' := [some (.ref o), some (.int v6)]) (lvle_s (lvle_s lvle_0)) ?_
          exact ih v6 h hyp
        · replace hyp := (if_neg q5).symm.trans hyp
          refine V_iconst (pc := 28) C dX10_allHome_28 (v := 0) (by decide) ?_
          cases hyp
          exact V_zret C dX10_allHome_29 rfl
def F_X10_allHome (N : Nat) (o : Nat) (h : PH) : Option (Int32 × PH) :=
  F_X10_allHome_b2 N o N (0 : Int32) h
set_option maxRecDepth 20000 in
set_option maxHeartbeats 4000000 in
theorem M_X10_allHome (E : EV) {N : Nat} {o : Nat} (ho : IST o) {r : Int32} {h h2 : PH} (hyp : F_X10_allHome N o h = some (r, h2)) : MI E 103 yX10_allHome cX10_allHome 2 (some .boolean) 0 0 [.ref o] h r h2 := by
  refine MI.of 1 (by decide) rfl (fun X e1 C => ?_)
  subst e1
  replace C : CX X 103 cX10_allHome 2 RX10 (some .boolean) 0 0 := C
  show V X _ h 0 [some (.ref o), none] []
  unfold F_X10_allHome at hyp
  refine V_iconst (pc := 0) C dX10_allHome_0 (v := 0) (by decide) ?_
  refine V_istore_n (pc := 1) C dX10_allHome_1 (by decide) rfl ?_
  refine V_weak (lv' := [some (.ref o), some (.int (0 : Int32))]) (lvle_s (lvle_s lvle_0)) ?_
  exact (T_X10_allHome_b2 C ho) N (0 : Int32) h hyp
theorem dX10_allRest_0 : decode cX10_allRest 0 = .ok (.iconst 0, 1) := by decide +kernel
theorem dX10_allRest_1 : decode cX10_allRest 1 = .ok (.istore_n 1, 1) := by decide +kernel
theorem dX10_allRest_2 : decode cX10_allRest 2 = .ok (.iload_n 1, 1) := by decide +kernel
theorem dX10_allRest_3 : decode cX10_allRest 3 = .ok (.aload_n 0, 1) := by decide +kernel
theorem dX10_allRest_4 : decode cX10_allRest 4 = .ok (.getfield 95, 3) := by decide +kernel
theorem dX10_allRest_7 : decode cX10_allRest 7 = .ok (.if_icmp .ge 67, 3) := by decide +kernel
theorem dX10_allRest_10 : decode cX10_allRest 10 = .ok (.aload_n 0, 1) := by decide +kernel
theorem dX10_allRest_11 : decode cX10_allRest 11 = .ok (.getfield 41, 3) := by decide +kernel
theorem dX10_allRest_14 : decode cX10_allRest 14 = .ok (.iload_n 1, 1) := by decide +kernel
theorem dX10_allRest_15 : decode cX10_allRest 15 = .ok (.iaload, 1) := by decide +kernel
theorem dX10_allRest_16 : decode cX10_allRest 16 = .ok (.aload_n 0, 1) := by decide +kernel
theorem dX10_allRest_17 : decode cX10_allRest 17 = .ok (.getfield 44, 3) := by decide +kernel
theorem dX10_allRest_20 : decode cX10_allRest 20 = .ok (.iload_n 1, 1) := by decide +kernel
theorem dX10_allRest_21 : decode cX10_allRest 21 = .ok (.iaload, 1) := by decide +kernel
theorem dX10_allRest_22 : decode cX10_allRest 22 = .ok (.ior, 1) := by decide +kernel
theorem dX10_allRest_23 : decode cX10_allRest 23 = .ok (.aload_n 0, 1) := by decide +kernel
theorem dX10_allRest_24 : decode cX10_allRest 24 = .ok (.getfield 38, 3) := by decide +kernel
theorem dX10_allRest_27 : decode cX10_allRest 27 = .ok (.iload_n 1, 1) := by decide +kernel
theorem dX10_allRest_28 : decode cX10_allRest 28 = .ok (.iaload, 1) := by decide +kernel
theorem dX10_allRest_29 : decode cX10_allRest 29 = .ok (.ior, 1) := by decide +kernel
theorem dX10_allRest_30 : decode cX10_allRest 30 = .ok (.aload_n 0, 1) := by decide +kernel
theorem dX10_allRest_31 : decode cX10_allRest 31 = .ok (.getfield 35, 3) := by decide +kernel
theorem dX10_allRest_34 : decode cX10_allRest 34 = .ok (.iload_n 1, 1) := by decide +kernel
theorem dX10_allRest_35 : decode cX10_allRest 35 = .ok (.iaload, 1) := by decide +kernel
theorem dX10_allRest_36 : decode cX10_allRest 36 = .ok (.ior, 1) := by decide +kernel
theorem dX10_allRest_37 : decode cX10_allRest 37 = .ok (.ifCond .eq 7, 3) := by decide +kernel
theorem dX10_allRest_40 : decode cX10_allRest 40 = .ok (.iconst 1, 1) := by decide +kernel
theorem dX10_allRest_41 : decode cX10_allRest 41 = .ok (.goto 4, 3) := by decide +kernel
theorem dX10_allRest_44 : decode cX10_allRest 44 = .ok (.iconst 0, 1) := by decide +kernel
theorem dX10_allRest_45 : decode cX10_allRest 45 = .ok (.istore_n 2, 1) := by decide +kernel
theorem dX10_allRest_46 : decode cX10_allRest 46 = .ok (.iload_n 2, 1) := by decide +kernel
theorem dX10_allRest_47 : decode cX10_allRest 47 = .ok (.ifCond .ne 19, 3) := by decide +kernel
theorem dX10_allRest_50 : decode cX10_allRest 50 = .ok (.aload_n 0, 1) := by decide +kernel
theorem dX10_allRest_51 : decode cX10_allRest 51 = .ok (.getfield 32, 3) := by decide +kernel
theorem dX10_allRest_54 : decode cX10_allRest 54 = .ok (.iload_n 1, 1) := by decide +kernel
theorem dX10_allRest_55 : decode cX10_allRest 55 = .ok (.iaload, 1) := by decide +kernel
theorem dX10_allRest_56 : decode cX10_allRest 56 = .ok (.aload_n 0, 1) := by decide +kernel
theorem dX10_allRest_57 : decode cX10_allRest 57 = .ok (.getfield 57, 3) := by decide +kernel
theorem dX10_allRest_60 : decode cX10_allRest 60 = .ok (.getfield 217, 3) := by decide +kernel
theorem dX10_allRest_63 : decode cX10_allRest 63 = .ok (.if_icmp .eq 5, 3) := by decide +kernel
theorem dX10_allRest_66 : decode cX10_allRest 66 = .ok (.iconst 0, 1) := by decide +kernel
theorem dX10_allRest_67 : decode cX10_allRest 67 = .ok (.ireturn, 1) := by decide +kernel
theorem dX10_allRest_68 : decode cX10_allRest 68 = .ok (.iinc 1 1, 3) := by decide +kernel
theorem dX10_allRest_71 : decode cX10_allRest 71 = .ok (.goto (-69), 3) := by decide +kernel
theorem dX10_allRest_74 : decode cX10_allRest 74 = .ok (.iconst 1, 1) := by decide +kernel
theorem dX10_allRest_75 : decode cX10_allRest 75 = .ok (.ireturn, 1) := by decide +kernel
def F_X10_allRest_b45 (N : Nat) (o : Nat) (rc2 : Int32 → PH → Option (Int32 × PH)) (x1 : Int32) (s0 : Int32) (h : PH) : Option (Int32 × PH) :=
  if s0 = 0 then
    if inb x1 2 = true then
    if (h.1 (o + 9) x1.toNatClampNeg) = (h.1 51 11) then
      ib (x1 + (1 : Int32)) fun v4 =>
      rc2 v4 h
    else
      some ((0 : Int32), h)
    else none
  else
    some ((0 : Int32), h)
set_option maxRecDepth 20000 in
set_option maxHeartbeats 4000000 in
theorem T_X10_allRest_b45 {X : CT} (C : CX X 103 cX10_allRest 3 RX10 (some .boolean) 0 0) {r0 : Int32} {h0 : PH} {N : Nat} {o : Nat} (ho : IST o) {rc2 : Int32 → PH → Option (Int32 × PH)} (hr2 : ∀ (x1 : Int32) (h : PH), rc2 x1 h = some (r0, h0) → V X (QI X r0 h0) h 2 [some (.ref o), some (.int x1), none] []) : ∀ (x1 : Int32) (s0 : Int32) (h : PH), F_X10_allRest_b45 N o rc2 x1 s0 h = some (r0, h0) → V X (QI X r0 h0) h 45 [some (.ref o), some (.int x1), none] [.int s0] := by
  intro x1 s0 h hyp
  unfold F_X10_allRest_b45 at hyp
  refine V_istore_n (pc := 45) C dX10_allRest_45 (by decide) rfl ?_
  refine V_iload_n (pc := 46) C dX10_allRest_46 rfl ?_
  refine V_if_ne (pc := 47) C dX10_allRest_47 (tgt := 66) (by decide) (fun q1 => ?_) (fun q1 => ?_)
  · replace hyp := (if_neg q1).symm.trans hyp
    refine V_iconst (pc := 66) C dX10_allRest_66 (v := 0) (by decide) ?_
    cases hyp
    exact V_zret C dX10_allRest_67 rfl
  · replace hyp := (if_pos q1).symm.trans hyp
    refine V_aload_n (pc := 50) C dX10_allRest_50 rfl ?_
    refine V_getR (pc := 51) C dX10_allRest_51 lf_X10_32 (fkT_10 ho) ?_
    refine V_iload_n (pc := 54) C dX10_allRest_54 rfl ?_
    obtain ⟨g2, hyp⟩ := gd_n hyp
    refine V_iald (pc := 55) C dX10_allRest_55 (akT_9 ho) g2 ?_
    refine V_aload_n (pc := 56) C dX10_allRest_56 rfl ?_
    refine V_getR (pc := 57) C dX10_allRest_57 lf_X10_57 (fkT_9 ho) ?_
    refine V_getI (pc := 60) C dX10_allRest_60 lf_X10_217 fk_51_11 ?_
    refine V_icmp_eq (pc := 63) C dX10_allRest_63 (tgt := 68) (by decide) (fun q3 => ?_) (fun q3 => ?_)
    · replace hyp := (if_pos q3).symm.trans hyp
      obtain ⟨v4, ev4, hyp⟩ := ib_n hyp
      refine V_iinc (pc := 68) C dX10_allRest_68 (v := v4) rfl (by rw [ev4]; rfl) (by decide) rfl ?_
      refine V_goto (pc := 71) C dX10_allRest_71 (tgt := 2) (by decide) ?_
      refine V_weak (lv' := [some (.ref o), some (.int v4), none]) (lvle_s (lvle_s (lvle_n lvle_0))) ?_
      exact hr2 v4 h hyp
    · replace hyp := (if_neg q3).symm.trans hyp
      refine V_iconst (pc := 66) C dX10_allRest_66 (v := 0) (by decide) ?_
      cases hyp
      exact V_zret C dX10_allRest_67 rfl
def F_X10_allRest_b2 (N : Nat) (o : Nat) : Nat → Int32 → PH → Option (Int32 × PH)
  | 0, _, _ => none
  | n + 1, x1, h =>
    if (h.1 o 6) ≤ x1 then
      some ((1 : Int32), h)
    else
      if inb x1 2 = true then
      if ((((h.1 (o + 12) x1.toNatClampNeg) ||| (h.1 (o + 13) x1.toNatClampNeg)) ||| (h.1 (o + 11) x1.toNatClampNeg)) ||| (h.1 (o + 10) x1.toNatClampNeg)) = 0 then
        F_X10_allRest_b45 N o (F_X10_allRest_b2 N o n) x1 (0 : Int32) h
      else
        F_X10_allRest_b45 N o (F_X10_allRest_b2 N o n) x1 (1 : Int32) h
      else none
set_option maxRecDepth 20000 in
set_option maxHeartbeats 4000000 in
theorem T_X10_allRest_b2 {X : CT} (C : CX X 103 cX10_allRest 3 RX10 (some .boolean) 0 0) {r0 : Int32} {h0 : PH} {N : Nat} {o : Nat} (ho : IST o) : ∀ (n : Nat) (x1 : Int32) (h : PH), F_X10_allRest_b2 N o n x1 h = some (r0, h0) → V X (QI X r0 h0) h 2 [some (.ref o), some (.int x1), none] [] := by
  intro n
  induction n with
  | zero =>
    intro x1 h hyp
    cases hyp
  | succ n ih =>
    intro x1 h hyp
    unfold F_X10_allRest_b2 at hyp
    refine V_iload_n (pc := 2) C dX10_allRest_2 rfl ?_
    refine V_aload_n (pc := 3) C dX10_allRest_3 rfl ?_
    refine V_getI (pc := 4) C dX10_allRest_4 lf_X10_95 (fkT_6 ho) ?_
    refine V_icmp_ge (pc := 7) C dX10_allRest_7 (tgt := 74) (by decide) (fun q1 => ?_) (fun q1 => ?_)
    · replace hyp := (if_pos q1).symm.trans hyp
      refine V_iconst (pc := 74) C dX10_allRest_74 (v := 1) (by decide) ?_
      cases hyp
      exact V_zret C dX10_allRest_75 rfl
    · replace hyp := (if_neg q1).symm.trans hyp
      refine V_aload_n (pc := 10) C dX10_allRest_10 rfl ?_
      refine V_getR (pc := 11) C dX10_allRest_11 lf_X10_41 (fkT_13 ho) ?_
      refine V_iload_n (pc := 14) C dX10_allRest_14 rfl ?_
      obtain ⟨g2, hyp⟩ := gd_n hyp
      refine V_iald (pc := 15) C dX10_allRest_15 (akT_12 ho) g2 ?_
      refine V_aload_n (pc := 16) C dX10_allRest_16 rfl ?_
      refine V_getR (pc := 17) C dX10_allRest_17 lf_X10_44 (fkT_14 ho) ?_
      refine V_iload_n (pc := 20) C dX10_allRest_20 rfl ?_
      refine V_iald (pc := 21) C dX10_allRest_21 (akT_13 ho) g2 ?_
      refine V_ior (pc := 22) C dX10_allRest_22 ?_
      refine V_aload_n (pc := 23) C dX10_allRest_23 rfl ?_
      refine V_getR (pc := 24) C dX10_allRest_24 lf_X10_38 (fkT_12 ho) ?_
      refine V_iload_n (pc := 27) C dX10_allRest_27 rfl ?_
      refine V_iald (pc := 28) C dX10_allRest_28 (akT_11 ho) g2 ?_
      refine V_ior (pc := 29) C dX10_allRest_29 ?_
      refine V_aload_n (pc := 30) C dX10_allRest_30 rfl ?_
      refine V_getR (pc := 31) C dX10_allRest_31 lf_X10_35 (fkT_11 ho) ?_
      refine V_iload_n (pc := 34) C dX10_allRest_34 rfl ?_
      refine V_iald (pc := 35) C dX10_allRest_35 (akT_10 ho) g2 ?_
      refine V_ior (pc := 36) C dX10_allRest_36 ?_
      refine V_if_eq (pc := 37) C dX10_allRest_37 (tgt := 44) (by decide) (fun q3 => ?_) (fun q3 => ?_)
      · replace hyp := (if_pos q3).symm.trans hyp
        refine V_iconst (pc := 44) C dX10_allRest_44 (v := 0) (by decide) ?_
        refine V_weak (lv' := [some (.ref o), some (.int x1), none]) (lvle_s (lvle_s (lvle_n lvle_0))) ?_
        exact (T_X10_allRest_b45 C ho ih) x1 (0 : Int32) h hyp
      · replace hyp := (if_neg q3).symm.trans hyp
        refine V_iconst (pc := 40) C dX10_allRest_40 (v := 1) (by decide) ?_
        refine V_goto (pc := 41) C dX10_allRest_41 (tgt := 45) (by decide) ?_
        refine V_weak (lv' := [some (.ref o), some (.int x1), none]) (lvle_s (lvle_s (lvle_n lvle_0))) ?_
        exact (T_X10_allRest_b45 C ho ih) x1 (1 : Int32) h hyp
def F_X10_allRest (N : Nat) (o : Nat) (h : PH) : Option (Int32 × PH) :=
  F_X10_allRest_b2 N o N (0 : Int32) h
set_option maxRecDepth 20000 in
set_option maxHeartbeats 4000000 in
theorem M_X10_allRest (E : EV) {N : Nat} {o : Nat} (ho : IST o) {r : Int32} {h h2 : PH} (hyp : F_X10_allRest N o h = some (r, h2)) : MI E 103 yX10_allRest cX10_allRest 3 (some .boolean) 0 0 [.ref o] h r h2 := by
  refine MI.of 2 (by decide) rfl (fun X e1 C => ?_)
  subst e1
  replace C : CX X 103 cX10_allRest 3 RX10 (some .boolean) 0 0 := C
  show V X _ h 0 [some (.ref o), none, none] []
  unfold F_X10_allRest at hyp
  refine V_iconst (pc := 0) C dX10_allRest_0 (v := 0) (by decide) ?_
  refine V_istore_n (pc := 1) C dX10_allRest_1 (by decide) rfl ?_
  refine V_weak (lv' := [some (.ref o), some (.int (0 : Int32)), none]) (lvle_s (lvle_s (lvle_n lvle_0))) ?_
  exact (T_X10_allRest_b2 C ho) N (0 : Int32) h hyp
theorem dX10_nextChange_0 : decode cX10_nextChange 0 = .ok (.aload_n 0, 1) := by decide +kernel
theorem dX10_nextChange_1 : decode cX10_nextChange 1 = .ok (.getfield 81, 3) := by decide +kernel
theorem dX10_nextChange_4 : decode cX10_nextChange 4 = .ok (.iconst (-1), 1) := by decide +kernel
theorem dX10_nextChange_5 : decode cX10_nextChange 5 = .ok (.if_icmp .ne 9, 3) := by decide +kernel
theorem dX10_nextChange_8 : decode cX10_nextChange 8 = .ok (.sipush 900, 3) := by decide +kernel
theorem dX10_nextChange_11 : decode cX10_nextChange 11 = .ok (.goto 7, 3) := by decide +kernel
theorem dX10_nextChange_14 : decode cX10_nextChange 14 = .ok (.aload_n 0, 1) := by decide +kernel
theorem dX10_nextChange_15 : decode cX10_nextChange 15 = .ok (.getfield 81, 3) := by decide +kernel
theorem dX10_nextChange_18 : decode cX10_nextChange 18 = .ok (.istore_n 1, 1) := by decide +kernel
theorem dX10_nextChange_19 : decode cX10_nextChange 19 = .ok (.aload_n 0, 1) := by decide +kernel
theorem dX10_nextChange_20 : decode cX10_nextChange 20 = .ok (.getfield 57, 3) := by decide +kernel
theorem dX10_nextChange_23 : decode cX10_nextChange 23 = .ok (.getfield 229, 3) := by decide +kernel
theorem dX10_nextChange_26 : decode cX10_nextChange 26 = .ok (.iconst (-1), 1) := by decide +kernel
theorem dX10_nextChange_27 : decode cX10_nextChange 27 = .ok (.if_icmp .ne 7, 3) := by decide +kernel
theorem dX10_nextChange_30 : decode cX10_nextChange 30 = .ok (.iload_n 1, 1) := by decide +kernel
theorem dX10_nextChange_31 : decode cX10_nextChange 31 = .ok (.goto 14, 3) := by decide +kernel
theorem dX10_nextChange_34 : decode cX10_nextChange 34 = .ok (.iload_n 1, 1) := by decide +kernel
theorem dX10_nextChange_35 : decode cX10_nextChange 35 = .ok (.aload_n 0, 1) := by decide +kernel
theorem dX10_nextChange_36 : decode cX10_nextChange 36 = .ok (.getfield 57, 3) := by decide +kernel
theorem dX10_nextChange_39 : decode cX10_nextChange 39 = .ok (.getfield 229, 3) := by decide +kernel
theorem dX10_nextChange_42 : decode cX10_nextChange 42 = .ok (.invokestatic 226, 3) := by decide +kernel
theorem dX10_nextChange_45 : decode cX10_nextChange 45 = .ok (.ireturn, 1) := by decide +kernel
def F_X10_nextChange_b18 (o : Nat) (s0 : Int32) (h : PH) : Option (Int32 × PH) :=
  if (h.1 51 14) = (-1 : Int32) then
    some (s0, h)
  else
    some (imin s0 (h.1 51 14), h)
set_option maxRecDepth 20000 in
set_option maxHeartbeats 4000000 in
theorem T_X10_nextChange_b18 {X : CT} (C : CX X 103 cX10_nextChange 2 RX10 (some .int) 1 21) {r0 : Int32} {h0 : PH} {o : Nat} (ho : IST o) : ∀ (s0 : Int32) (h : PH), F_X10_nextChange_b18 o s0 h = some (r0, h0) → V X (QI X r0 h0) h 18 [some (.ref o), none] [.int s0] := by
  intro s0 h hyp
  unfold F_X10_nextChange_b18 at hyp
  refine V_istore_n (pc := 18) C dX10_nextChange_18 (by decide) rfl ?_
  refine V_aload_n (pc := 19) C dX10_nextChange_19 rfl ?_
  refine V_getR (pc := 20) C dX10_nextChange_20 lf_X10_57 (fkT_9 ho) ?_
  refine V_getI (pc := 23) C dX10_nextChange_23 lf_X10_229 fk_51_14 ?_
  refine V_iconst (pc := 26) C dX10_nextChange_26 (v := -1) (by decide) ?_
  refine V_icmp_ne (pc := 27) C dX10_nextChange_27 (tgt := 34) (by decide) (fun q1 => ?_) (fun q1 => ?_)
  · replace hyp := (if_neg q1).symm.trans hyp
    refine V_iload_n (pc := 34) C dX10_nextChange_34 rfl ?_
    refine V_aload_n (pc := 35) C dX10_nextChange_35 rfl ?_
    refine V_getR (pc := 36) C dX10_nextChange_36 lf_X10_57 (fkT_9 ho) ?_
    refine V_getI (pc := 39) C dX10_nextChange_39 lf_X10_229 fk_51_14 ?_
    refine V_mmin (pc := 42) C dX10_nextChange_42 lm_X10_226 (by decide) (Nat.le_of_ble_eq_true rfl) ?_
    cases hyp
    exact V_iret C dX10_nextChange_45
  · replace hyp := (if_pos q1).symm.trans hyp
    refine V_iload_n (pc := 30) C dX10_nextChange_30 rfl ?_
    refine V_goto (pc := 31) C dX10_nextChange_31 (tgt := 45) (by decide) ?_
    cases hyp
    exact V_iret C dX10_nextChange_45
def F_X10_nextChange (o : Nat) (h : PH) : Option (Int32 × PH) :=
  if (h.1 o 17) = (-1 : Int32) then
    F_X10_nextChange_b18 o (900 : Int32) h
  else
    F_X10_nextChange_b18 o (h.1 o 17) h
set_option maxRecDepth 20000 in
set_option maxHeartbeats 4000000 in
theorem M_X10_nextChange (E : EV) {o : Nat} (ho : IST o) {r : Int32} {h h2 : PH} (hyp : F_X10_nextChange o h = some (r, h2)) : MI E 103 yX10_nextChange cX10_nextChange 2 (some .int) 1 21 [.ref o] h r h2 := by
  refine MI.of 1 (by decide) rfl (fun X e1 C => ?_)
  subst e1
  replace C : CX X 103 cX10_nextChange 2 RX10 (some .int) 1 21 := C
  show V X _ h 0 [some (.ref o), none] []
  unfold F_X10_nextChange at hyp
  refine V_aload_n (pc := 0) C dX10_nextChange_0 rfl ?_
  refine V_getI (pc := 1) C dX10_nextChange_1 lf_X10_81 (fkT_17 ho) ?_
  refine V_iconst (pc := 4) C dX10_nextChange_4 (v := -1) (by decide) ?_
  refine V_icmp_ne (pc := 5) C dX10_nextChange_5 (tgt := 14) (by decide) (fun q1 => ?_) (fun q1 => ?_)
  · replace hyp := (if_neg q1).symm.trans hyp
    refine V_aload_n (pc := 14) C dX10_nextChange_14 rfl ?_
    refine V_getI (pc := 15) C dX10_nextChange_15 lf_X10_81 (fkT_17 ho) ?_
    refine V_weak (lv' := [some (.ref o), none]) (lvle_s (lvle_n lvle_0)) ?_
    exact (T_X10_nextChange_b18 C ho) (h.1 o 17) h hyp
  · replace hyp := (if_pos q1).symm.trans hyp
    refine V_sipush (pc := 8) C dX10_nextChange_8 (v := 900) (by decide) ?_
    refine V_goto (pc := 11) C dX10_nextChange_11 (tgt := 18) (by decide) ?_
    refine V_weak (lv' := [some (.ref o), none]) (lvle_s (lvle_n lvle_0)) ?_
    exact (T_X10_nextChange_b18 C ho) (900 : Int32) h hyp
theorem dX10_noteWaits_0 : decode cX10_noteWaits 0 = .ok (.iconst 0, 1) := by decide +kernel
theorem dX10_noteWaits_1 : decode cX10_noteWaits 1 = .ok (.istore_n 1, 1) := by decide +kernel
theorem dX10_noteWaits_2 : decode cX10_noteWaits 2 = .ok (.iload_n 1, 1) := by decide +kernel
theorem dX10_noteWaits_3 : decode cX10_noteWaits 3 = .ok (.aload_n 0, 1) := by decide +kernel
theorem dX10_noteWaits_4 : decode cX10_noteWaits 4 = .ok (.getfield 127, 3) := by decide +kernel
theorem dX10_noteWaits_7 : decode cX10_noteWaits 7 = .ok (.if_icmp .ge 47, 3) := by decide +kernel
theorem dX10_noteWaits_10 : decode cX10_noteWaits 10 = .ok (.aload_n 0, 1) := by decide +kernel
theorem dX10_noteWaits_11 : decode cX10_noteWaits 11 = .ok (.getfield 21, 3) := by decide +kernel
theorem dX10_noteWaits_14 : decode cX10_noteWaits 14 = .ok (.iload_n 1, 1) := by decide +kernel
theorem dX10_noteWaits_15 : decode cX10_noteWaits 15 = .ok (.aload_n 0, 1) := by decide +kernel
theorem dX10_noteWaits_16 : decode cX10_noteWaits 16 = .ok (.getfield 15, 3) := by decide +kernel
theorem dX10_noteWaits_19 : decode cX10_noteWaits 19 = .ok (.iload_n 1, 1) := by decide +kernel
theorem dX10_noteWaits_20 : decode cX10_noteWaits 20 = .ok (.iaload, 1) := by decide +kernel
theorem dX10_noteWaits_21 : decode cX10_noteWaits 21 = .ok (.iconst (-1), 1) := by decide +kernel
theorem dX10_noteWaits_22 : decode cX10_noteWaits 22 = .ok (.if_icmp .ne 9, 3) := by decide +kernel
theorem dX10_noteWaits_25 : decode cX10_noteWaits 25 = .ok (.sipush 900, 3) := by decide +kernel
theorem dX10_noteWaits_28 : decode cX10_noteWaits 28 = .ok (.goto 19, 3) := by decide +kernel
theorem dX10_noteWaits_31 : decode cX10_noteWaits 31 = .ok (.aload_n 0, 1) := by decide +kernel
theorem dX10_noteWaits_32 : decode cX10_noteWaits 32 = .ok (.getfield 15, 3) := by decide +kernel
theorem dX10_noteWaits_35 : decode cX10_noteWaits 35 = .ok (.iload_n 1, 1) := by decide +kernel
theorem dX10_noteWaits_36 : decode cX10_noteWaits 36 = .ok (.iaload, 1) := by decide +kernel
theorem dX10_noteWaits_37 : decode cX10_noteWaits 37 = .ok (.aload_n 0, 1) := by decide +kernel
theorem dX10_noteWaits_38 : decode cX10_noteWaits 38 = .ok (.getfield 57, 3) := by decide +kernel
theorem dX10_noteWaits_41 : decode cX10_noteWaits 41 = .ok (.getfield 140, 3) := by decide +kernel
theorem dX10_noteWaits_44 : decode cX10_noteWaits 44 = .ok (.iload_n 1, 1) := by decide +kernel
theorem dX10_noteWaits_45 : decode cX10_noteWaits 45 = .ok (.iaload, 1) := by decide +kernel
theorem dX10_noteWaits_46 : decode cX10_noteWaits 46 = .ok (.isub, 1) := by decide +kernel
theorem dX10_noteWaits_47 : decode cX10_noteWaits 47 = .ok (.iastore, 1) := by decide +kernel
theorem dX10_noteWaits_48 : decode cX10_noteWaits 48 = .ok (.iinc 1 1, 3) := by decide +kernel
theorem dX10_noteWaits_51 : decode cX10_noteWaits 51 = .ok (.goto (-49), 3) := by decide +kernel
theorem dX10_noteWaits_54 : decode cX10_noteWaits 54 = .ok (.return_, 1) := by decide +kernel
def F_X10_noteWaits_b47 (N : Nat) (o : Nat) (rc2 : Int32 → PH → Option PH) (x1 : Int32) (s0 : Int32) (s1 : Int32) (h : PH) : Option PH :=
  if inb s1 24 = true then
  hb (hs h (o + 4) s1.toNatClampNeg s0) fun h2 =>
  ib (x1 + (1 : Int32)) fun v3 =>
  rc2 v3 h2
  else none
set_option maxRecDepth 20000 in
set_option maxHeartbeats 4000000 in
theorem T_X10_noteWaits_b47 {X : CT} (C : CX X 103 cX10_noteWaits 2 RX10 none 0 0) {h0 : PH} {N : Nat} {o : Nat} (ho : IST o) {rc2 : Int32 → PH → Option PH} (hr2 : ∀ (x1 : Int32) (h : PH), rc2 x1 h = some h0 → V X (QV X h0) h 2 [some (.ref o), some (.int x1)] []) : ∀ (x1 : Int32) (s0 : Int32) (s1 : Int32) (h : PH), F_X10_noteWaits_b47 N o rc2 x1 s0 s1 h = some h0 → V X (QV X h0) h 47 [some (.ref o), some (.int x1)] [.int s0, .int s1, .ref (o + 4)] := by
  intro x1 s0 s1 h hyp
  unfold F_X10_noteWaits_b47 at hyp
  obtain ⟨g1, hyp⟩ := gd_n hyp
  obtain ⟨h2, eh2, hyp⟩ := hb_n hyp
  refine V_iast (pc := 47) C dX10_noteWaits_47 (akT_4 ho) g1 eh2 ?_
  obtain ⟨v3, ev3, hyp⟩ := ib_n hyp
  refine V_iinc (pc := 48) C dX10_noteWaits_48 (v := v3) rfl (by rw [ev3]; rfl) (by decide) rfl ?_
  refine V_goto (pc := 51) C dX10_noteWaits_51 (tgt := 2) (by decide) ?_
  refine V_weak (lv' := [some (.ref o), some (.int v3)]) (lvle_s (lvle_s lvle_0)) ?_
  exact hr2 v3 h2 hyp
def F_X10_noteWaits_b2 (N : Nat) (o : Nat) : Nat → Int32 → PH → Option PH
  | 0, _, _ => none
  | n + 1, x1, h =>
    if (h.1 o 7) ≤ x1 then
      some h
    else
      if inb x1 24 = true then
      if (h.1 (o + 2) x1.toNatClampNeg) = (-1 : Int32) then
        F_X10_noteWaits_b47 N o (F_X10_noteWaits_b2 N o n) x1 (900 : Int32) x1 h
      else
        if inb x1 24 = true then
        F_X10_noteWaits_b47 N o (F_X10_noteWaits_b2 N o n) x1 ((h.1 (o + 2) x1.toNatClampNeg) - (h.1 52 x1.toNatClampNeg)) x1 h
        else none
      else none
set_option maxRecDepth 20000 in
set_option maxHeartbeats 4000000 in
theorem T_X10_noteWaits_b2 {X : CT} (C : CX X 103 cX10_noteWaits 2 RX10 none 0 0) {h0 : PH} {N : Nat} {o : Nat} (ho : IST o) : ∀ (n : Nat) (x1 : Int32) (h : PH), F_X10_noteWaits_b2 N o n x1 h = some h0 → V X (QV X h0) h 2 [some (.ref o), some (.int x1)] [] := by
  intro n
  induction n with
  | zero =>
    intro x1 h hyp
    cases hyp
  | succ n ih =>
    intro x1 h hyp
    unfold F_X10_noteWaits_b2 at hyp
    refine V_iload_n (pc := 2) C dX10_noteWaits_2 rfl ?_
    refine V_aload_n (pc := 3) C dX10_noteWaits_3 rfl ?_
    refine V_getI (pc := 4) C dX10_noteWaits_4 lf_X10_127 (fkT_7 ho) ?_
    refine V_icmp_ge (pc := 7) C dX10_noteWaits_7 (tgt := 54) (by decide) (fun q1 => ?_) (fun q1 => ?_)
    · replace hyp := (if_pos q1).symm.trans hyp
      cases hyp
      exact V_vret C dX10_noteWaits_54
    · replace hyp := (if_neg q1).symm.trans hyp
      refine V_aload_n (pc := 10) C dX10_noteWaits_10 rfl ?_
      refine V_getR (pc := 11) C dX10_noteWaits_11 lf_X10_21 (fkT_3 ho) ?_
      refine V_iload_n (pc := 14) C dX10_noteWaits_14 rfl ?_
      refine V_aload_n (pc := 15) C dX10_noteWaits_15 rfl ?_
      refine V_getR (pc := 16) C dX10_noteWaits_16 lf_X10_15 (fkT_1 ho) ?_
      refine V_iload_n (pc := 19) C dX10_noteWaits_19 rfl ?_
      obtain ⟨g2, hyp⟩ := gd_n hyp
      refine V_iald (pc := 20) C dX10_noteWaits_20 (akT_2 ho) g2 ?_
      refine V_iconst (pc := 21) C dX10_noteWaits_21 (v := -1) (by decide) ?_
      refine V_icmp_ne (pc := 22) C dX10_noteWaits_22 (tgt := 31) (by decide) (fun q3 => ?_) (fun q3 => ?_)
      · replace hyp := (if_neg q3).symm.trans hyp
        refine V_aload_n (pc := 31) C dX10_noteWaits_31 rfl ?_
        refine V_getR (pc := 32) C dX10_noteWaits_32 lf_X10_15 (fkT_1 ho) ?_
        refine V_iload_n (pc := 35) C dX10_noteWaits_35 rfl ?_
        obtain ⟨g4, hyp⟩ := gd_n hyp
        refine V_iald (pc := 36) C dX10_noteWaits_36 (akT_2 ho) g4 ?_
        refine V_aload_n (pc := 37) C dX10_noteWaits_37 rfl ?_
        refine V_getR (pc := 38) C dX10_noteWaits_38 lf_X10_57 (fkT_9 ho) ?_
        refine V_getR (pc := 41) C dX10_noteWaits_41 lf_X10_140 fk_51_1 ?_
        refine V_iload_n (pc := 44) C dX10_noteWaits_44 rfl ?_
        refine V_iald (pc := 45) C dX10_noteWaits_45 ak_52 g4 ?_
        refine V_isub (pc := 46) C dX10_noteWaits_46 ?_
        refine V_weak (lv' := [some (.ref o), some (.int x1)]) (lvle_s (lvle_s lvle_0)) ?_
        exact (T_X10_noteWaits_b47 C ho ih) x1 ((h.1 (o + 2) x1.toNatClampNeg) - (h.1 52 x1.toNatClampNeg)) x1 h hyp
      · replace hyp := (if_pos q3).symm.trans hyp
        refine V_sipush (pc := 25) C dX10_noteWaits_25 (v := 900) (by decide) ?_
        refine V_goto (pc := 28) C dX10_noteWaits_28 (tgt := 47) (by decide) ?_
        refine V_weak (lv' := [some (.ref o), some (.int x1)]) (lvle_s (lvle_s lvle_0)) ?_
        exact (T_X10_noteWaits_b47 C ho ih) x1 (900 : Int32) x1 h hyp
def F_X10_noteWaits (N : Nat) (o : Nat) (h : PH) : Option PH :=
  F_X10_noteWaits_b2 N o N (0 : Int32) h
set_option maxRecDepth 20000 in
set_option maxHeartbeats 4000000 in
theorem M_X10_noteWaits (E : EV) {N : Nat} {o : Nat} (ho : IST o) {h h2 : PH} (hyp : F_X10_noteWaits N o h = some h2) : MV E 103 yX10_noteWaits cX10_noteWaits 2 none 0 0 [.ref o] h h2 := by
  refine MV.of 1 (by decide) rfl (fun X e1 C => ?_)
  subst e1
  replace C : CX X 103 cX10_noteWaits 2 RX10 none 0 0 := C
  show V X _ h 0 [some (.ref o), none] []
  unfold F_X10_noteWaits at hyp
  refine V_iconst (pc := 0) C dX10_noteWaits_0 (v := 0) (by decide) ?_
  refine V_istore_n (pc := 1) C dX10_noteWaits_1 (by decide) rfl ?_
  refine V_weak (lv' := [some (.ref o), some (.int (0 : Int32))]) (lvle_s (lvle_s lvle_0)) ?_
  exact (T_X10_noteWaits_b2 C ho) N (0 : Int32) h hyp
theorem dX10_simulate_0 : decode cX10_simulate 0 = .ok (.aload_n 0, 1) := by decide +kernel
theorem dX10_simulate_1 : decode cX10_simulate 1 = .ok (.invokevirtual 71, 3) := by decide +kernel
theorem dX10_simulate_4 : decode cX10_simulate 4 = .ok (.iconst 0, 1) := by decide +kernel
theorem dX10_simulate_5 : decode cX10_simulate 5 = .ok (.istore_n 2, 1) := by decide +kernel
theorem dX10_simulate_6 : decode cX10_simulate 6 = .ok (.iload_n 2, 1) := by decide +kernel
theorem dX10_simulate_7 : decode cX10_simulate 7 = .ok (.sipush 900, 3) := by decide +kernel
theorem dX10_simulate_10 : decode cX10_simulate 10 = .ok (.if_icmp .ge 143, 3) := by decide +kernel
theorem dX10_simulate_13 : decode cX10_simulate 13 = .ok (.aload_n 0, 1) := by decide +kernel
theorem dX10_simulate_14 : decode cX10_simulate 14 = .ok (.getfield 74, 3) := by decide +kernel
theorem dX10_simulate_17 : decode cX10_simulate 17 = .ok (.iconst (-1), 1) := by decide +kernel
theorem dX10_simulate_18 : decode cX10_simulate 18 = .ok (.if_icmp .ne 135, 3) := by decide +kernel
theorem dX10_simulate_21 : decode cX10_simulate 21 = .ok (.aload_n 0, 1) := by decide +kernel
theorem dX10_simulate_22 : decode cX10_simulate 22 = .ok (.getfield 57, 3) := by decide +kernel
theorem dX10_simulate_25 : decode cX10_simulate 25 = .ok (.iload_n 2, 1) := by decide +kernel
theorem dX10_simulate_26 : decode cX10_simulate 26 = .ok (.invokevirtual 77, 3) := by decide +kernel
theorem dX10_simulate_29 : decode cX10_simulate 29 = .ok (.ifCond .ne 29, 3) := by decide +kernel
theorem dX10_simulate_32 : decode cX10_simulate 32 = .ok (.iload_n 2, 1) := by decide +kernel
theorem dX10_simulate_33 : decode cX10_simulate 33 = .ok (.aload_n 0, 1) := by decide +kernel
theorem dX10_simulate_34 : decode cX10_simulate 34 = .ok (.getfield 81, 3) := by decide +kernel
theorem dX10_simulate_37 : decode cX10_simulate 37 = .ok (.if_icmp .ne 21, 3) := by decide +kernel
theorem dX10_simulate_40 : decode cX10_simulate 40 = .ok (.aload_n 0, 1) := by decide +kernel
theorem dX10_simulate_41 : decode cX10_simulate 41 = .ok (.iload_n 2, 1) := by decide +kernel
theorem dX10_simulate_42 : decode cX10_simulate 42 = .ok (.iload_n 1, 1) := by decide +kernel
theorem dX10_simulate_43 : decode cX10_simulate 43 = .ok (.invokevirtual 84, 3) := by decide +kernel
theorem dX10_simulate_46 : decode cX10_simulate 46 = .ok (.aload_n 0, 1) := by decide +kernel
theorem dX10_simulate_47 : decode cX10_simulate 47 = .ok (.aload_n 0, 1) := by decide +kernel
theorem dX10_simulate_48 : decode cX10_simulate 48 = .ok (.getfield 57, 3) := by decide +kernel
theorem dX10_simulate_51 : decode cX10_simulate 51 = .ok (.iload_n 2, 1) := by decide +kernel
theorem dX10_simulate_52 : decode cX10_simulate 52 = .ok (.invokevirtual 88, 3) := by decide +kernel
theorem dX10_simulate_55 : decode cX10_simulate 55 = .ok (.putfield 81, 3) := by decide +kernel
theorem dX10_simulate_58 : decode cX10_simulate 58 = .ok (.aload_n 0, 1) := by decide +kernel
theorem dX10_simulate_59 : decode cX10_simulate 59 = .ok (.iload_n 2, 1) := by decide +kernel
theorem dX10_simulate_60 : decode cX10_simulate 60 = .ok (.invokevirtual 92, 3) := by decide +kernel
theorem dX10_simulate_63 : decode cX10_simulate 63 = .ok (.iconst 0, 1) := by decide +kernel
theorem dX10_simulate_64 : decode cX10_simulate 64 = .ok (.istore_n 3, 1) := by decide +kernel
theorem dX10_simulate_65 : decode cX10_simulate 65 = .ok (.iload_n 3, 1) := by decide +kernel
theorem dX10_simulate_66 : decode cX10_simulate 66 = .ok (.aload_n 0, 1) := by decide +kernel
theorem dX10_simulate_67 : decode cX10_simulate 67 = .ok (.getfield 95, 3) := by decide +kernel
theorem dX10_simulate_70 : decode cX10_simulate 70 = .ok (.if_icmp .ge 15, 3) := by decide +kernel
theorem dX10_simulate_73 : decode cX10_simulate 73 = .ok (.aload_n 0, 1) := by decide +kernel
theorem dX10_simulate_74 : decode cX10_simulate 74 = .ok (.iload_n 3, 1) := by decide +kernel
theorem dX10_simulate_75 : decode cX10_simulate 75 = .ok (.iload_n 2, 1) := by decide +kernel
theorem dX10_simulate_76 : decode cX10_simulate 76 = .ok (.invokevirtual 98, 3) := by decide +kernel
theorem dX10_simulate_79 : decode cX10_simulate 79 = .ok (.iinc 3 1, 3) := by decide +kernel
theorem dX10_simulate_82 : decode cX10_simulate 82 = .ok (.goto (-17), 3) := by decide +kernel
theorem dX10_simulate_85 : decode cX10_simulate 85 = .ok (.aload_n 0, 1) := by decide +kernel
theorem dX10_simulate_86 : decode cX10_simulate 86 = .ok (.getfield 101, 3) := by decide +kernel
theorem dX10_simulate_89 : decode cX10_simulate 89 = .ok (.ifCond .eq 21, 3) := by decide +kernel
theorem dX10_simulate_92 : decode cX10_simulate 92 = .ok (.aload_n 0, 1) := by decide +kernel
theorem dX10_simulate_93 : decode cX10_simulate 93 = .ok (.getfield 57, 3) := by decide +kernel
theorem dX10_simulate_96 : decode cX10_simulate 96 = .ok (.iload_n 2, 1) := by decide +kernel
theorem dX10_simulate_97 : decode cX10_simulate 97 = .ok (.invokevirtual 77, 3) := by decide +kernel
theorem dX10_simulate_100 : decode cX10_simulate 100 = .ok (.ifCond .eq 18, 3) := by decide +kernel
theorem dX10_simulate_103 : decode cX10_simulate 103 = .ok (.aload_n 0, 1) := by decide +kernel
theorem dX10_simulate_104 : decode cX10_simulate 104 = .ok (.invokevirtual 104, 3) := by decide +kernel
theorem dX10_simulate_107 : decode cX10_simulate 107 = .ok (.ifCond .eq 11, 3) := by decide +kernel
theorem dX10_simulate_110 : decode cX10_simulate 110 = .ok (.aload_n 0, 1) := by decide +kernel
theorem dX10_simulate_111 : decode cX10_simulate 111 = .ok (.iload_n 2, 1) := by decide +kernel
theorem dX10_simulate_112 : decode cX10_simulate 112 = .ok (.putfield 74, 3) := by decide +kernel
theorem dX10_simulate_115 : decode cX10_simulate 115 = .ok (.goto 32, 3) := by decide +kernel
theorem dX10_simulate_118 : decode cX10_simulate 118 = .ok (.aload_n 0, 1) := by decide +kernel
theorem dX10_simulate_119 : decode cX10_simulate 119 = .ok (.getfield 57, 3) := by decide +kernel
theorem dX10_simulate_122 : decode cX10_simulate 122 = .ok (.iload_n 2, 1) := by decide +kernel
theorem dX10_simulate_123 : decode cX10_simulate 123 = .ok (.invokevirtual 77, 3) := by decide +kernel
theorem dX10_simulate_126 : decode cX10_simulate 126 = .ok (.ifCond .ne 21, 3) := by decide +kernel
theorem dX10_simulate_129 : decode cX10_simulate 129 = .ok (.aload_n 0, 1) := by decide +kernel
theorem dX10_simulate_130 : decode cX10_simulate 130 = .ok (.invokevirtual 108, 3) := by decide +kernel
theorem dX10_simulate_133 : decode cX10_simulate 133 = .ok (.ifCond .eq 14, 3) := by decide +kernel
theorem dX10_simulate_136 : decode cX10_simulate 136 = .ok (.iload_n 2, 1) := by decide +kernel
theorem dX10_simulate_137 : decode cX10_simulate 137 = .ok (.aload_n 0, 1) := by decide +kernel
theorem dX10_simulate_138 : decode cX10_simulate 138 = .ok (.invokevirtual 111, 3) := by decide +kernel
theorem dX10_simulate_141 : decode cX10_simulate 141 = .ok (.iconst 1, 1) := by decide +kernel
theorem dX10_simulate_142 : decode cX10_simulate 142 = .ok (.isub, 1) := by decide +kernel
theorem dX10_simulate_143 : decode cX10_simulate 143 = .ok (.invokestatic 114, 3) := by decide +kernel
theorem dX10_simulate_146 : decode cX10_simulate 146 = .ok (.istore_n 2, 1) := by decide +kernel
theorem dX10_simulate_147 : decode cX10_simulate 147 = .ok (.iinc 2 1, 3) := by decide +kernel
theorem dX10_simulate_150 : decode cX10_simulate 150 = .ok (.goto (-144), 3) := by decide +kernel
theorem dX10_simulate_153 : decode cX10_simulate 153 = .ok (.aload_n 0, 1) := by decide +kernel
theorem dX10_simulate_154 : decode cX10_simulate 154 = .ok (.invokevirtual 120, 3) := by decide +kernel
theorem dX10_simulate_157 : decode cX10_simulate 157 = .ok (.return_, 1) := by decide +kernel
def F_X10_simulate_b147 (N : Nat) (o : Nat) (rc6 : Int32 → Int32 → PH → Option PH) (x1 : Int32) (x2 : Int32) (h : PH) : Option PH :=
  ib (x2 + (1 : Int32)) fun v1 =>
  rc6 x1 v1 h
set_option maxRecDepth 20000 in
set_option maxHeartbeats 4000000 in
theorem T_X10_simulate_b147 {X : CT} (C : CX X 103 cX10_simulate 4 RX10 none 5 122) {h0 : PH} {N : Nat} {o : Nat} (ho : IST o) {rc6 : Int32 → Int32 → PH → Option PH} (hr6 : ∀ (x1 : Int32) (x2 : Int32) (h : PH), rc6 x1 x2 h = some h0 → V X (QV X h0) h 6 [some (.ref o), some (.int x1), some (.int x2), none] []) : ∀ (x1 : Int32) (x2 : Int32) (h : PH), F_X10_simulate_b147 N o rc6 x1 x2 h = some h0 → V X (QV X h0) h 147 [some (.ref o), some (.int x1), some (.int x2), none] [] := by
  intro x1 x2 h hyp
  unfold F_X10_simulate_b147 at hyp
  obtain ⟨v1, ev1, hyp⟩ := ib_n hyp
  refine V_iinc (pc := 147) C dX10_simulate_147 (v := v1) rfl (by rw [ev1]; rfl) (by decide) rfl ?_
  refine V_goto (pc := 150) C dX10_simulate_150 (tgt := 6) (by decide) ?_
  refine V_weak (lv' := [some (.ref o), some (.int x1), some (.int v1), none]) (lvle_s (lvle_s (lvle_s (lvle_n lvle_0)))) ?_
  exact hr6 x1 v1 h hyp
def F_X10_simulate_b110 (N : Nat) (o : Nat) (rc6 : Int32 → Int32 → PH → Option PH) (x1 : Int32) (x2 : Int32) (h : PH) : Option PH :=
  hb (hs h o 8 x2) fun h1 =>
  F_X10_simulate_b147 N o rc6 x1 x2 h1
set_option maxRecDepth 20000 in
set_option maxHeartbeats 4000000 in
theorem T_X10_simulate_b110 {X : CT} (C : CX X 103 cX10_simulate 4 RX10 none 5 122) {h0 : PH} {N : Nat} {o : Nat} (ho : IST o) {rc6 : Int32 → Int32 → PH → Option PH} (hr6 : ∀ (x1 : Int32) (x2 : Int32) (h : PH), rc6 x1 x2 h = some h0 → V X (QV X h0) h 6 [some (.ref o), some (.int x1), some (.int x2), none] []) : ∀ (x1 : Int32) (x2 : Int32) (h : PH), F_X10_simulate_b110 N o rc6 x1 x2 h = some h0 → V X (QV X h0) h 110 [some (.ref o), some (.int x1), some (.int x2), none] [] := by
  intro x1 x2 h hyp
  unfold F_X10_simulate_b110 at hyp
  refine V_aload_n (pc := 110) C dX10_simulate_110 rfl ?_
  refine V_iload_n (pc := 111) C dX10_simulate_111 rfl ?_
  obtain ⟨h1, eh1, hyp⟩ := hb_n hyp
  refine V_putI (pc := 112) C dX10_simulate_112 lf_X10_74 (fkT_8 ho) rfl rfl eh1 ?_
  refine V_goto (pc := 115) C dX10_simulate_115 (tgt := 147) (by decide) ?_
  refine V_weak (lv' := [some (.ref o), some (.int x1), some (.int x2), none]) (lvle_s (lvle_s (lvle_s (lvle_n lvle_0)))) ?_
  exact (T_X10_simulate_b147 C ho hr6) x1 x2 h1 hyp
def F_X10_simulate_b118 (N : Nat) (o : Nat) (rc6 : Int32 → Int32 → PH → Option PH) (x1 : Int32) (x2 : Int32) (h : PH) : Option PH :=
  bI (F_X6_burns x2 h) fun r1 h2 =>
  if r1 = 0 then
    bI (F_X10_allRest N o h2) fun r4 h5 =>
    if r4 = 0 then
      F_X10_simulate_b147 N o rc6 x1 x2 h5
    else
      bI (F_X10_nextChange o h5) fun r7 h8 =>
      ib (imax x2 (r7 - (1 : Int32))) fun v9 =>
      F_X10_simulate_b147 N o rc6 x1 v9 h8
  else
    F_X10_simulate_b147 N o rc6 x1 x2 h2
set_option maxRecDepth 20000 in
set_option maxHeartbeats 4000000 in
theorem T_X10_simulate_b118 {X : CT} (C : CX X 103 cX10_simulate 4 RX10 none 5 122) {h0 : PH} {N : Nat} {o : Nat} (ho : IST o) {rc6 : Int32 → Int32 → PH → Option PH} (hr6 : ∀ (x1 : Int32) (x2 : Int32) (h : PH), rc6 x1 x2 h = some h0 → V X (QV X h0) h 6 [some (.ref o), some (.int x1), some (.int x2), none] []) : ∀ (x1 : Int32) (x2 : Int32) (h : PH), F_X10_simulate_b118 N o rc6 x1 x2 h = some h0 → V X (QV X h0) h 118 [some (.ref o), some (.int x1), some (.int x2), none] [] := by
  intro x1 x2 h hyp
  unfold F_X10_simulate_b118 at hyp
  refine V_aload_n (pc := 118) C dX10_simulate_118 rfl ?_
  refine V_getR (pc := 119) C dX10_simulate_119 lf_X10_57 (fkT_9 ho) ?_
  refine V_iload_n (pc := 122) C dX10_simulate_122 rfl ?_
  obtain ⟨r1, h2, eh2, hyp⟩ := bI_n hyp
  refine V_callI (pc := 123) C dX10_simulate_123 lm_X10_77 mk_X6_burns ok_51 rfl (M_X6_burns _ eh2) rfl pd_X6_burns (by decide) (by decide) (by decide) (As := [.int x2]) (rest := []) rfl (Nat.le_of_ble_eq_true rfl) ?_
  refine V_if_ne (pc := 126) C dX10_simulate_126 (tgt := 147) (by decide) (fun q3 => ?_) (fun q3 => ?_)
  · replace hyp := (if_neg q3).symm.trans hyp
    refine V_weak (lv' := [some (.ref o), some (.int x1), some (.int x2), none]) (lvle_s (lvle_s (lvle_s (lvle_n lvle_0)))) ?_
    exact (T_X10_simulate_b147 C ho hr6) x1 x2 h2 hyp
  · replace hyp := (if_pos q3).symm.trans hyp
    refine V_aload_n (pc := 129) C dX10_simulate_129 rfl ?_
    obtain ⟨r4, h5, eh5, hyp⟩ := bI_n hyp
    refine V_callI (pc := 130) C dX10_simulate_130 lm_X10_108 mk_X10_allRest (okT ho) rfl (M_X10_allRest _ ho eh5) rfl pd_X10_allRest (by decide) (by decide) (by decide) (As := []) (rest := []) rfl (Nat.le_of_ble_eq_true rfl) ?_
    refine V_if_eq (pc := 133) C dX10_simulate_133 (tgt := 147) (by decide) (fun q6 => ?_) (fun q6 => ?_)
    · replace hyp := (if_pos q6).symm.trans hyp
      refine V_weak (lv' := [some (.ref o), some (.int x1), some (.int x2), none]) (lvle_s (lvle_s (lvle_s (lvle_n lvle_0)))) ?_
      exact (T_X10_simulate_b147 C ho hr6) x1 x2 h5 hyp
    · replace hyp := (if_neg q6).symm.trans hyp
      refine V_iload_n (pc := 136) C dX10_simulate_136 rfl ?_
      refine V_aload_n (pc := 137) C dX10_simulate_137 rfl ?_
      obtain ⟨r7, h8, eh8, hyp⟩ := bI_n hyp
      refine V_callI (pc := 138) C dX10_simulate_138 lm_X10_111 mk_X10_nextChange (okT ho) rfl (M_X10_nextChange _ ho eh8) rfl pd_X10_nextChange (by decide) (by decide) (by decide) (As := []) (rest := [.int x2]) rfl (Nat.le_of_ble_eq_true rfl) ?_
      refine V_iconst (pc := 141) C dX10_simulate_141 (v := 1) (by decide) ?_
      refine V_isub (pc := 142) C dX10_simulate_142 ?_
      refine V_mmax (pc := 143) C dX10_simulate_143 lm_X10_114 (by decide) (Nat.le_of_ble_eq_true rfl) ?_
      obtain ⟨v9, ev9, hyp⟩ := ib_n hyp
      refine V_topI ev9 ?_
      refine V_istore_n (pc := 146) C dX10_simulate_146 (by decide) rfl ?_
      refine V_weak (lv' := [some (.ref o), some (.int x1), some (.int v9), none]) (lvle_s (lvle_s (lvle_s (lvle_n lvle_0)))) ?_
      exact (T_X10_simulate_b147 C ho hr6) x1 v9 h8 hyp
def F_X10_simulate_b85 (N : Nat) (o : Nat) (rc6 : Int32 → Int32 → PH → Option PH) (x1 : Int32) (x2 : Int32) (h : PH) : Option PH :=
  if (h.1 o 18) = 0 then
    F_X10_simulate_b110 N o rc6 x1 x2 h
  else
    bI (F_X6_burns x2 h) fun r2 h3 =>
    if r2 = 0 then
      F_X10_simulate_b118 N o rc6 x1 x2 h3
    else
      bI (F_X10_allHome N o h3) fun r5 h6 =>
      if r5 = 0 then
        F_X10_simulate_b118 N o rc6 x1 x2 h6
      else
        F_X10_simulate_b110 N o rc6 x1 x2 h6
set_option maxRecDepth 20000 in
set_option maxHeartbeats 4000000 in
theorem T_X10_simulate_b85 {X : CT} (C : CX X 103 cX10_simulate 4 RX10 none 5 122) {h0 : PH} {N : Nat} {o : Nat} (ho : IST o) {rc6 : Int32 → Int32 → PH → Option PH} (hr6 : ∀ (x1 : Int32) (x2 : Int32) (h : PH), rc6 x1 x2 h = some h0 → V X (QV X h0) h 6 [some (.ref o), some (.int x1), some (.int x2), none] []) : ∀ (x1 : Int32) (x2 : Int32) (h : PH), F_X10_simulate_b85 N o rc6 x1 x2 h = some h0 → V X (QV X h0) h 85 [some (.ref o), some (.int x1), some (.int x2), none] [] := by
  intro x1 x2 h hyp
  unfold F_X10_simulate_b85 at hyp
  refine V_aload_n (pc := 85) C dX10_simulate_85 rfl ?_
  refine V_getI (pc := 86) C dX10_simulate_86 lf_X10_101 (fkT_18 ho) ?_
  refine V_if_eq (pc := 89) C dX10_simulate_89 (tgt := 110) (by decide) (fun q1 => ?_) (fun q1 => ?_)
  · replace hyp := (if_pos q1).symm.trans hyp
    refine V_weak (lv' := [some (.ref o), some (.int x1), some (.int x2), none]) (lvle_s (lvle_s (lvle_s (lvle_n lvle_0)))) ?_
    exact (T_X10_simulate_b110 C ho hr6) x1 x2 h hyp
  · replace hyp := (if_neg q1).symm.trans hyp
    refine V_aload_n (pc := 92) C dX10_simulate_92 rfl ?_
    refine V_getR (pc := 93) C dX10_simulate_93 lf_X10_57 (fkT_9 ho) ?_
    refine V_iload_n (pc := 96) C dX10_simulate_96 rfl ?_
    obtain ⟨r2, h3, eh3, hyp⟩ := bI_n hyp
    refine V_callI (pc := 97) C dX10_simulate_97 lm_X10_77 mk_X6_burns ok_51 rfl (M_X6_burns _ eh3) rfl pd_X6_burns (by decide) (by decide) (by decide) (As := [.int x2]) (rest := []) rfl (Nat.le_of_ble_eq_true rfl) ?_
    refine V_if_eq (pc := 100) C dX10_simulate_100 (tgt := 118) (by decide) (fun q4 => ?_) (fun q4 => ?_)
    · replace hyp := (if_pos q4).symm.trans hyp
      refine V_weak (lv' := [some (.ref o), some (.int x1), some (.int x2), none]) (lvle_s (lvle_s (lvle_s (lvle_n lvle_0)))) ?_
      exact (T_X10_simulate_b118 C ho hr6) x1 x2 h3 hyp
    · replace hyp := (if_neg q4).symm.trans hyp
      refine V_aload_n (pc := 103) C dX10_simulate_103 rfl ?_
      obtain ⟨r5, h6, eh6, hyp⟩ := bI_n hyp
      refine V_callI (pc := 104) C dX10_simulate_104 lm_X10_104 mk_X10_allHome (okT ho) rfl (M_X10_allHome _ ho eh6) rfl pd_X10_allHome (by decide) (by decide) (by decide) (As := []) (rest := []) rfl (Nat.le_of_ble_eq_true rfl) ?_
      refine V_if_eq (pc := 107) C dX10_simulate_107 (tgt := 118) (by decide) (fun q7 => ?_) (fun q7 => ?_)
      · replace hyp := (if_pos q7).symm.trans hyp
        refine V_weak (lv' := [some (.ref o), some (.int x1), some (.int x2), none]) (lvle_s (lvle_s (lvle_s (lvle_n lvle_0)))) ?_
        exact (T_X10_simulate_b118 C ho hr6) x1 x2 h6 hyp
      · replace hyp := (if_neg q7).symm.trans hyp
        refine V_weak (lv' := [some (.ref o), some (.int x1), some (.int x2), none]) (lvle_s (lvle_s (lvle_s (lvle_n lvle_0)))) ?_
        exact (T_X10_simulate_b110 C ho hr6) x1 x2 h6 hyp
def F_X10_simulate_b65 (N : Nat) (o : Nat) (rc6 : Int32 → Int32 → PH → Option PH) : Nat → Int32 → Int32 → Int32 → PH → Option PH
  | 0, _, _, _, _ => none
  | n + 1, x1, x2, x3, h =>
    if (h.1 o 6) ≤ x3 then
      F_X10_simulate_b85 N o rc6 x1 x2 h
    else
      bV (F_X10_act N o x3 x2 h) fun h3 =>
      ib (x3 + (1 : Int32)) fun v4 =>
      F_X10_simulate_b65 N o rc6 n x1 x2 v4 h3
set_option maxRecDepth 20000 in
set_option maxHeartbeats 4000000 in
theorem T_X10_simulate_b65 {X : CT} (C : CX X 103 cX10_simulate 4 RX10 none 5 122) {h0 : PH} {N : Nat} {o : Nat} (ho : IST o) {rc6 : Int32 → Int32 → PH → Option PH} (hr6 : ∀ (x1 : Int32) (x2 : Int32) (h : PH), rc6 x1 x2 h = some h0 → V X (QV X h0) h 6 [some (.ref o), some (.int x1), some (.int x2), none] []) : ∀ (n : Nat) (x1 : Int32) (x2 : Int32) (x3 : Int32) (h : PH), F_X10_simulate_b65 N o rc6 n x1 x2 x3 h = some h0 → V X (QV X h0) h 65 [some (.ref o), some (.int x1), some (.int x2), some (.int x3)] [] := by
  intro n
  induction n with
  | zero =>
    intro x1 x2 x3 h hyp
    cases hyp
  | succ n ih =>
    intro x1 x2 x3 h hyp
    unfold F_X10_simulate_b65 at hyp
    refine V_iload_n (pc := 65) C dX10_simulate_65 rfl ?_
    refine V_aload_n (pc := 66) C dX10_simulate_66 rfl ?_
    refine V_getI (pc := 67) C dX10_simulate_67 lf_X10_95 (fkT_6 ho) ?_
    refine V_icmp_ge (pc := 70) C dX10_simulate_70 (tgt := 85) (by decide) (fun q1 => ?_) (fun q1 => ?_)
    · replace hyp := (if_pos q1).symm.trans hyp
      refine V_weak (lv' := [some (.ref o), some (.int x1), some (.int x2), none]) (lvle_s (lvle_s (lvle_s (lvle_n lvle_0)))) ?_
      exact (T_X10_simulate_b85 C ho hr6) x1 x2 h hyp
    · replace hyp := (if_neg q1).symm.trans hyp
      refine V_aload_n (pc := 73) C dX10_simulate_73 rfl ?_
      refine V_iload_n (pc := 74) C dX10_simulate_74 rfl ?_
      refine V_iload_n (pc := 75) C dX10_simulate_75 rfl ?_
      obtain ⟨h3, eh3, hyp⟩ := bV_n hyp
      refine V_callV (pc := 76) C dX10_simulate_76 lm_X10_98 mk_X10_act (okT ho) rfl (M_X10_act _ ho eh3) rfl pd_X10_act (by decide) (by decide) (by decide) (As := [.int x3, .int x2]) (rest := []) rfl (Nat.le_of_ble_eq_true rfl) ?_
      obtain ⟨v4, ev4, hyp⟩ := ib_n hyp
      refine V_iinc (pc := 79) C dX10_simulate_79 (v := v4) rfl (by rw [ev4]; rfl) (by decide) rfl ?_
      refine V_goto (pc := 82) C dX10_simulate_82 (tgt := 65) (by decide) ?_
      refine V_weak (lv' := [some (.ref o), some (.int x1), some (.int x2), some (.int v4)]) (lvle_s (lvle_s (lvle_s (lvle_s lvle_0)))) ?_
      exact ih x1 x2 v4 h3 hyp
def F_X10_simulate_b58 (N : Nat) (o : Nat) (rc6 : Int32 → Int32 → PH → Option PH) (x1 : Int32) (x2 : Int32) (h : PH) : Option PH :=
  bV (F_X10_holdDoors N o x2 h) fun h2 =>
  F_X10_simulate_b65 N o rc6 N x1 x2 (0 : Int32) h2
set_option maxRecDepth 20000 in
set_option maxHeartbeats 4000000 in
theorem T_X10_simulate_b58 {X : CT} (C : CX X 103 cX10_simulate 4 RX10 none 5 122) {h0 : PH} {N : Nat} {o : Nat} (ho : IST o) {rc6 : Int32 → Int32 → PH → Option PH} (hr6 : ∀ (x1 : Int32) (x2 : Int32) (h : PH), rc6 x1 x2 h = some h0 → V X (QV X h0) h 6 [some (.ref o), some (.int x1), some (.int x2), none] []) : ∀ (x1 : Int32) (x2 : Int32) (h : PH), F_X10_simulate_b58 N o rc6 x1 x2 h = some h0 → V X (QV X h0) h 58 [some (.ref o), some (.int x1), some (.int x2), none] [] := by
  intro x1 x2 h hyp
  unfold F_X10_simulate_b58 at hyp
  refine V_aload_n (pc := 58) C dX10_simulate_58 rfl ?_
  refine V_iload_n (pc := 59) C dX10_simulate_59 rfl ?_
  obtain ⟨h2, eh2, hyp⟩ := bV_n hyp
  refine V_callV (pc := 60) C dX10_simulate_60 lm_X10_92 mk_X10_holdDoors (okT ho) rfl (M_X10_holdDoors _ ho eh2) rfl pd_X10_holdDoors (by decide) (by decide) (by decide) (As := [.int x2]) (rest := []) rfl (Nat.le_of_ble_eq_true rfl) ?_
  refine V_iconst (pc := 63) C dX10_simulate_63 (v := 0) (by decide) ?_
  refine V_istore_n (pc := 64) C dX10_simulate_64 (by decide) rfl ?_
  refine V_weak (lv' := [some (.ref o), some (.int x1), some (.int x2), some (.int (0 : Int32))]) (lvle_s (lvle_s (lvle_s (lvle_s lvle_0)))) ?_
  exact (T_X10_simulate_b65 C ho hr6) N x1 x2 (0 : Int32) h2 hyp
def F_X10_simulate_b153 (N : Nat) (o : Nat) (h : PH) : Option PH :=
  bV (F_X10_noteWaits N o h) fun h2 =>
  some h2
set_option maxRecDepth 20000 in
set_option maxHeartbeats 4000000 in
theorem T_X10_simulate_b153 {X : CT} (C : CX X 103 cX10_simulate 4 RX10 none 5 122) {h0 : PH} {N : Nat} {o : Nat} (ho : IST o) : ∀ (h : PH), F_X10_simulate_b153 N o  h = some h0 → V X (QV X h0) h 153 [some (.ref o), none, none, none] [] := by
  intro  h hyp
  unfold F_X10_simulate_b153 at hyp
  refine V_aload_n (pc := 153) C dX10_simulate_153 rfl ?_
  obtain ⟨h2, eh2, hyp⟩ := bV_n hyp
  refine V_callV (pc := 154) C dX10_simulate_154 lm_X10_120 mk_X10_noteWaits (okT ho) rfl (M_X10_noteWaits _ ho eh2) rfl pd_X10_noteWaits (by decide) (by decide) (by decide) (As := []) (rest := []) rfl (Nat.le_of_ble_eq_true rfl) ?_
  cases hyp
  exact V_vret C dX10_simulate_157
def F_X10_simulate_b6 (N : Nat) (o : Nat) : Nat → Int32 → Int32 → PH → Option PH
  | 0, _, _, _ => none
  | n + 1, x1, x2, h =>
    if (900 : Int32) ≤ x2 then
      F_X10_simulate_b153 N o  h
    else
      if (h.1 o 8) = (-1 : Int32) then
        bI (F_X6_burns x2 h) fun r3 h4 =>
        if r3 = 0 then
          if x2 = (h4.1 o 17) then
            bV (F_X10_give N o x2 x1 h4) fun h8 =>
            bI (F_X6_nextComing N x2 h8) fun r9 h10 =>
            hb (hs h10 o 17 r9) fun h11 =>
            F_X10_simulate_b58 N o (F_X10_simulate_b6 N o n) x1 x2 h11
          else
            F_X10_simulate_b58 N o (F_X10_simulate_b6 N o n) x1 x2 h4
        else
          F_X10_simulate_b58 N o (F_X10_simulate_b6 N o n) x1 x2 h4
      else
        F_X10_simulate_b153 N o  h
set_option maxRecDepth 20000 in
set_option maxHeartbeats 4000000 in
theorem T_X10_simulate_b6 {X : CT} (C : CX X 103 cX10_simulate 4 RX10 none 5 122) {h0 : PH} {N : Nat} {o : Nat} (ho : IST o) : ∀ (n : Nat) (x1 : Int32) (x2 : Int32) (h : PH), F_X10_simulate_b6 N o n x1 x2 h = some h0 → V X (QV X h0) h 6 [some (.ref o), some (.int x1), some (.int x2), none] [] := by
  intro n
  induction n with
  | zero =>
    intro x1 x2 h hyp
    cases hyp
  | succ n ih =>
    intro x1 x2 h hyp
    unfold F_X10_simulate_b6 at hyp
    refine V_iload_n (pc := 6) C dX10_simulate_6 rfl ?_
    refine V_sipush (pc := 7) C dX10_simulate_7 (v := 900) (by decide) ?_
    refine V_icmp_ge (pc := 10) C dX10_simulate_10 (tgt := 153) (by decide) (fun q1 => ?_) (fun q1 => ?_)
    · replace hyp := (if_pos q1).symm.trans hyp
      refine V_weak (lv' := [some (.ref o), none, none, none]) (lvle_s (lvle_n (lvle_n (lvle_n lvle_0)))) ?_
      exact (T_X10_simulate_b153 C ho) h hyp
    · replace hyp := (if_neg q1).symm.trans hyp
      refine V_aload_n (pc := 13) C dX10_simulate_13 rfl ?_
      refine V_getI (pc := 14) C dX10_simulate_14 lf_X10_74 (fkT_8 ho) ?_
      refine V_iconst (pc := 17) C dX10_simulate_17 (v := -1) (by decide) ?_
      refine V_icmp_ne (pc := 18) C dX10_simulate_18 (tgt := 153) (by decide) (fun q2 => ?_) (fun q2 => ?_)
      · replace hyp := (if_neg q2).symm.trans hyp
        refine V_weak (lv' := [some (.ref o), none, none, none]) (lvle_s (lvle_n (lvle_n (lvle_n lvle_0)))) ?_
        exact (T_X10_simulate_b153 C ho) h hyp
      · replace hyp := (if_pos q2).symm.trans hyp
        refine V_aload_n (pc := 21) C dX10_simulate_21 rfl ?_
        refine V_getR (pc := 22) C dX10_simulate_22 lf_X10_57 (fkT_9 ho) ?_
        refine V_iload_n (pc := 25) C dX10_simulate_25 rfl ?_
        obtain ⟨r3, h4, eh4, hyp⟩ := bI_n hyp
        refine V_callI (pc := 26) C dX10_simulate_26 lm_X10_77 mk_X6_burns ok_51 rfl (M_X6_burns _ eh4) rfl pd_X6_burns (by decide) (by decide) (by decide) (As := [.int x2]) (rest := []) rfl (Nat.le_of_ble_eq_true rfl) ?_
        refine V_if_ne (pc := 29) C dX10_simulate_29 (tgt := 58) (by decide) (fun q5 => ?_) (fun q5 => ?_)
        · replace hyp := (if_neg q5).symm.trans hyp
          refine V_weak (lv' := [some (.ref o), some (.int x1), some (.int x2), none]) (lvle_s (lvle_s (lvle_s (lvle_n lvle_0)))) ?_
          exact (T_X10_simulate_b58 C ho ih) x1 x2 h4 hyp
        · replace hyp := (if_pos q5).symm.trans hyp
          refine V_iload_n (pc := 32) C dX10_simulate_32 rfl ?_
          refine V_aload_n (pc := 33) C dX10_simulate_33 rfl ?_
          refine V_getI (pc := 34) C dX10_simulate_34 lf_X10_81 (fkT_17 ho) ?_
          refine V_icmp_ne (pc := 37) C dX10_simulate_37 (tgt := 58) (by decide) (fun q6 => ?_) (fun q6 => ?_)
          · replace hyp := (if_neg q6).symm.trans hyp
            refine V_weak (lv' := [some (.ref o), some (.int x1), some (.int x2), none]) (lvle_s (lvle_s (lvle_s (lvle_n lvle_0)))) ?_
            exact (T_X10_simulate_b58 C ho ih) x1 x2 h4 hyp
          · replace hyp := (if_pos q6).symm.trans hyp
            refine V_aload_n (pc := 40) C dX10_simulate_40 rfl ?_
            refine V_iload_n (pc := 41) C dX10_simulate_41 rfl ?_
            refine V_iload_n (pc := 42) C dX10_simulate_42 rfl ?_
            obtain ⟨h8, eh8, hyp⟩ := bV_n hyp
            refine V_callV (pc := 43) C dX10_simulate_43 lm_X10_84 mk_X10_give (okT ho) rfl (M_X10_give _ ho eh8) rfl pd_X10_give (by decide) (by decide) (by decide) (As := [.int x2, .int x1]) (rest := []) rfl (Nat.le_of_ble_eq_true rfl) ?_
            refine V_aload_n (pc := 46) C dX10_simulate_46 rfl ?_
            refine V_aload_n (pc := 47) C dX10_simulate_47 rfl ?_
            refine V_getR (pc := 48) C dX10_simulate_48 lf_X10_57 (fkT_9 ho) ?_
            refine V_iload_n (pc := 51) C dX10_simulate_51 rfl ?_
            obtain ⟨r9, h10, eh10, hyp⟩ := bI_n hyp
            refine V_callI (pc := 52) C dX10_simulate_52 lm_X10_88 mk_X6_nextComing ok_51 rfl (M_X6_nextComing _ eh10) rfl pd_X6_nextComing (by decide) (by decide) (by decide) (As := [.int x2]) (rest := [.ref o]) rfl (Nat.le_of_ble_eq_true rfl) ?_
            obtain ⟨h11, eh11, hyp⟩ := hb_n hyp
            refine V_putI (pc := 55) C dX10_simulate_55 lf_X10_81 (fkT_17 ho) rfl rfl eh11 ?_
            refine V_weak (lv' := [some (.ref o), some (.int x1), some (.int x2), none]) (lvle_s (lvle_s (lvle_s (lvle_n lvle_0)))) ?_
            exact (T_X10_simulate_b58 C ho ih) x1 x2 h11 hyp
def F_X10_simulate (N : Nat) (o : Nat) (a1 : Int32) (h : PH) : Option PH :=
  bV (F_X10_begin N o h) fun h2 =>
  F_X10_simulate_b6 N o N a1 (0 : Int32) h2
set_option maxRecDepth 20000 in
set_option maxHeartbeats 4000000 in
theorem M_X10_simulate (E : EV) {N : Nat} {o : Nat} {a1 : Int32} (ho : IST o) {h h2 : PH} (hyp : F_X10_simulate N o a1 h = some h2) : MV E 103 yX10_simulate cX10_simulate 4 none 5 122 [.ref o, .int a1] h h2 := by
  refine MV.of 2 (by decide) rfl (fun X e1 C => ?_)
  subst e1
  replace C : CX X 103 cX10_simulate 4 RX10 none 5 122 := C
  show V X _ h 0 [some (.ref o), some (.int a1), none, none] []
  unfold F_X10_simulate at hyp
  refine V_aload_n (pc := 0) C dX10_simulate_0 rfl ?_
  obtain ⟨h2, eh2, hyp⟩ := bV_n hyp
  refine V_callV (pc := 1) C dX10_simulate_1 lm_X10_71 mk_X10_begin (okT ho) rfl (M_X10_begin _ ho eh2) rfl pd_X10_begin (by decide) (by decide) (by decide) (As := []) (rest := []) rfl (Nat.le_of_ble_eq_true rfl) ?_
  refine V_iconst (pc := 4) C dX10_simulate_4 (v := 0) (by decide) ?_
  refine V_istore_n (pc := 5) C dX10_simulate_5 (by decide) rfl ?_
  refine V_weak (lv' := [some (.ref o), some (.int a1), some (.int (0 : Int32)), none]) (lvle_s (lvle_s (lvle_s (lvle_n lvle_0)))) ?_
  exact (T_X10_simulate_b6 C ho) N a1 (0 : Int32) h2 hyp
theorem dX10_catchUp_0 : decode cX10_catchUp 0 = .ok (.aload_n 0, 1) := by decide +kernel
theorem dX10_catchUp_1 : decode cX10_catchUp 1 = .ok (.getfield 53, 3) := by decide +kernel
theorem dX10_catchUp_4 : decode cX10_catchUp 4 = .ok (.aload_n 0, 1) := by decide +kernel
theorem dX10_catchUp_5 : decode cX10_catchUp 5 = .ok (.getfield 57, 3) := by decide +kernel
theorem dX10_catchUp_8 : decode cX10_catchUp 8 = .ok (.invokevirtual 61, 3) := by decide +kernel
theorem dX10_catchUp_11 : decode cX10_catchUp 11 = .ok (.if_icmp .eq 19, 3) := by decide +kernel
theorem dX10_catchUp_14 : decode cX10_catchUp 14 = .ok (.aload_n 0, 1) := by decide +kernel
theorem dX10_catchUp_15 : decode cX10_catchUp 15 = .ok (.aload_n 0, 1) := by decide +kernel
theorem dX10_catchUp_16 : decode cX10_catchUp 16 = .ok (.getfield 57, 3) := by decide +kernel
theorem dX10_catchUp_19 : decode cX10_catchUp 19 = .ok (.invokevirtual 61, 3) := by decide +kernel
theorem dX10_catchUp_22 : decode cX10_catchUp 22 = .ok (.putfield 53, 3) := by decide +kernel
theorem dX10_catchUp_25 : decode cX10_catchUp 25 = .ok (.aload_n 0, 1) := by decide +kernel
theorem dX10_catchUp_26 : decode cX10_catchUp 26 = .ok (.iconst (-1), 1) := by decide +kernel
theorem dX10_catchUp_27 : decode cX10_catchUp 27 = .ok (.invokevirtual 67, 3) := by decide +kernel
theorem dX10_catchUp_30 : decode cX10_catchUp 30 = .ok (.return_, 1) := by decide +kernel
def F_X10_catchUp (N : Nat) (o : Nat) (h : PH) : Option PH :=
  bI (F_X6_tellings  h) fun r1 h2 =>
  if (h.1 o 19) = r1 then
    some h2
  else
    bI (F_X6_tellings  h2) fun r4 h5 =>
    hb (hs h5 o 19 r4) fun h6 =>
    bV (F_X10_simulate N o (-1 : Int32) h6) fun h8 =>
    some h8
set_option maxRecDepth 20000 in
set_option maxHeartbeats 4000000 in
theorem M_X10_catchUp (E : EV) {N : Nat} {o : Nat} (ho : IST o) {h h2 : PH} (hyp : F_X10_catchUp N o h = some h2) : MV E 103 yX10_catchUp cX10_catchUp 1 none 6 145 [.ref o] h h2 := by
  refine MV.of 0 (by decide) rfl (fun X e1 C => ?_)
  subst e1
  replace C : CX X 103 cX10_catchUp 1 RX10 none 6 145 := C
  show V X _ h 0 [some (.ref o)] []
  unfold F_X10_catchUp at hyp
  refine V_aload_n (pc := 0) C dX10_catchUp_0 rfl ?_
  refine V_getI (pc := 1) C dX10_catchUp_1 lf_X10_53 (fkT_19 ho) ?_
  refine V_aload_n (pc := 4) C dX10_catchUp_4 rfl ?_
  refine V_getR (pc := 5) C dX10_catchUp_5 lf_X10_57 (fkT_9 ho) ?_
  obtain ⟨r1, h2, eh2, hyp⟩ := bI_n hyp
  refine V_callI (pc := 8) C dX10_catchUp_8 lm_X10_61 mk_X6_tellings ok_51 rfl (M_X6_tellings _ eh2) rfl pd_X6_tellings (by decide) (by decide) (by decide) (As := []) (rest := [.int (h.1 o 19)]) rfl (Nat.le_of_ble_eq_true rfl) ?_
  refine V_icmp_eq (pc := 11) C dX10_catchUp_11 (tgt := 30) (by decide) (fun q3 => ?_) (fun q3 => ?_)
  · replace hyp := (if_pos q3).symm.trans hyp
    cases hyp
    exact V_vret C dX10_catchUp_30
  · replace hyp := (if_neg q3).symm.trans hyp
    refine V_aload_n (pc := 14) C dX10_catchUp_14 rfl ?_
    refine V_aload_n (pc := 15) C dX10_catchUp_15 rfl ?_
    refine V_getR (pc := 16) C dX10_catchUp_16 lf_X10_57 (fkT_9 ho) ?_
    obtain ⟨r4, h5, eh5, hyp⟩ := bI_n hyp
    refine V_callI (pc := 19) C dX10_catchUp_19 lm_X10_61 mk_X6_tellings ok_51 rfl (M_X6_tellings _ eh5) rfl pd_X6_tellings (by decide) (by decide) (by decide) (As := []) (rest := [.ref o]) rfl (Nat.le_of_ble_eq_true rfl) ?_
    obtain ⟨h6, eh6, hyp⟩ := hb_n hyp
    refine V_putI (pc := 22) C dX10_catchUp_22 lf_X10_53 (fkT_19 ho) rfl rfl eh6 ?_
    refine V_aload_n (pc := 25) C dX10_catchUp_25 rfl ?_
    refine V_iconst (pc := 26) C dX10_catchUp_26 (v := -1) (by decide) ?_
    obtain ⟨h8, eh8, hyp⟩ := bV_n hyp
    refine V_callV (pc := 27) C dX10_catchUp_27 lm_X10_67 mk_X10_simulate (okT ho) rfl (M_X10_simulate _ ho eh8) rfl pd_X10_simulate (by decide) (by decide) (by decide) (As := [.int (-1 : Int32)]) (rest := []) rfl (Nat.le_of_ble_eq_true rfl) ?_
    cases hyp
    exact V_vret C dX10_catchUp_30
