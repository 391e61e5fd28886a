theorem dX12_trip_0 : decode cX12_trip 0 = .ok (.aload_n 0, 1) := by decide +kernel
theorem dX12_trip_1 : decode cX12_trip 1 = .ok (.iconst 0, 1) := by decide +kernel
theorem dX12_trip_2 : decode cX12_trip 2 = .ok (.putfield 180, 3) := by decide +kernel
theorem dX12_trip_5 : decode cX12_trip 5 = .ok (.aload_n 0, 1) := by decide +kernel
theorem dX12_trip_6 : decode cX12_trip 6 = .ok (.iload_n 1, 1) := by decide +kernel
theorem dX12_trip_7 : decode cX12_trip 7 = .ok (.invokevirtual 376, 3) := by decide +kernel
theorem dX12_trip_10 : decode cX12_trip 10 = .ok (.ifCond .eq 36, 3) := by decide +kernel
theorem dX12_trip_13 : decode cX12_trip 13 = .ok (.aload_n 0, 1) := by decide +kernel
theorem dX12_trip_14 : decode cX12_trip 14 = .ok (.iload_n 2, 1) := by decide +kernel
theorem dX12_trip_15 : decode cX12_trip 15 = .ok (.invokevirtual 376, 3) := by decide +kernel
theorem dX12_trip_18 : decode cX12_trip 18 = .ok (.ifCond .eq 28, 3) := by decide +kernel
theorem dX12_trip_21 : decode cX12_trip 21 = .ok (.iload_n 1, 1) := by decide +kernel
theorem dX12_trip_22 : decode cX12_trip 22 = .ok (.iload_n 2, 1) := by decide +kernel
theorem dX12_trip_23 : decode cX12_trip 23 = .ok (.if_icmp .eq 23, 3) := by decide +kernel
theorem dX12_trip_26 : decode cX12_trip 26 = .ok (.iload_n 3, 1) := by decide +kernel
theorem dX12_trip_27 : decode cX12_trip 27 = .ok (.iconst 1, 1) := by decide +kernel
theorem dX12_trip_28 : decode cX12_trip 28 = .ok (.sipush 9999, 3) := by decide +kernel
theorem dX12_trip_31 : decode cX12_trip 31 = .ok (.invokestatic 183, 3) := by decide +kernel
theorem dX12_trip_34 : decode cX12_trip 34 = .ok (.ifCond .eq 12, 3) := by decide +kernel
theorem dX12_trip_37 : decode cX12_trip 37 = .ok (.aload_n 0, 1) := by decide +kernel
theorem dX12_trip_38 : decode cX12_trip 38 = .ok (.getfield 206, 3) := by decide +kernel
theorem dX12_trip_41 : decode cX12_trip 41 = .ok (.bipush 40, 2) := by decide +kernel
theorem dX12_trip_43 : decode cX12_trip 43 = .ok (.if_icmp .ne 5, 3) := by decide +kernel
theorem dX12_trip_46 : decode cX12_trip 46 = .ok (.iconst 0, 1) := by decide +kernel
theorem dX12_trip_47 : decode cX12_trip 47 = .ok (.ireturn, 1) := by decide +kernel
theorem dX12_trip_48 : decode cX12_trip 48 = .ok (.aload_n 0, 1) := by decide +kernel
theorem dX12_trip_49 : decode cX12_trip 49 = .ok (.getfield 165, 3) := by decide +kernel
theorem dX12_trip_52 : decode cX12_trip 52 = .ok (.aload_n 0, 1) := by decide +kernel
theorem dX12_trip_53 : decode cX12_trip 53 = .ok (.getfield 206, 3) := by decide +kernel
theorem dX12_trip_56 : decode cX12_trip 56 = .ok (.iload_n 1, 1) := by decide +kernel
theorem dX12_trip_57 : decode cX12_trip 57 = .ok (.iload_n 2, 1) := by decide +kernel
theorem dX12_trip_58 : decode cX12_trip 58 = .ok (.if_icmp .ge 7, 3) := by decide +kernel
theorem dX12_trip_61 : decode cX12_trip 61 = .ok (.iload_n 1, 1) := by decide +kernel
theorem dX12_trip_62 : decode cX12_trip 62 = .ok (.goto 4, 3) := by decide +kernel
theorem dX12_trip_65 : decode cX12_trip 65 = .ok (.iload_n 2, 1) := by decide +kernel
theorem dX12_trip_66 : decode cX12_trip 66 = .ok (.iastore, 1) := by decide +kernel
theorem dX12_trip_67 : decode cX12_trip 67 = .ok (.aload_n 0, 1) := by decide +kernel
theorem dX12_trip_68 : decode cX12_trip 68 = .ok (.getfield 168, 3) := by decide +kernel
theorem dX12_trip_71 : decode cX12_trip 71 = .ok (.aload_n 0, 1) := by decide +kernel
theorem dX12_trip_72 : decode cX12_trip 72 = .ok (.getfield 206, 3) := by decide +kernel
theorem dX12_trip_75 : decode cX12_trip 75 = .ok (.iload_n 1, 1) := by decide +kernel
theorem dX12_trip_76 : decode cX12_trip 76 = .ok (.iload_n 2, 1) := by decide +kernel
theorem dX12_trip_77 : decode cX12_trip 77 = .ok (.if_icmp .ge 7, 3) := by decide +kernel
theorem dX12_trip_80 : decode cX12_trip 80 = .ok (.iload_n 2, 1) := by decide +kernel
theorem dX12_trip_81 : decode cX12_trip 81 = .ok (.goto 4, 3) := by decide +kernel
theorem dX12_trip_84 : decode cX12_trip 84 = .ok (.iload_n 1, 1) := by decide +kernel
theorem dX12_trip_85 : decode cX12_trip 85 = .ok (.iastore, 1) := by decide +kernel
theorem dX12_trip_86 : decode cX12_trip 86 = .ok (.aload_n 0, 1) := by decide +kernel
theorem dX12_trip_87 : decode cX12_trip 87 = .ok (.getfield 171, 3) := by decide +kernel
theorem dX12_trip_90 : decode cX12_trip 90 = .ok (.aload_n 0, 1) := by decide +kernel
theorem dX12_trip_91 : decode cX12_trip 91 = .ok (.getfield 206, 3) := by decide +kernel
theorem dX12_trip_94 : decode cX12_trip 94 = .ok (.iload_n 3, 1) := by decide +kernel
theorem dX12_trip_95 : decode cX12_trip 95 = .ok (.iastore, 1) := by decide +kernel
theorem dX12_trip_96 : decode cX12_trip 96 = .ok (.aload_n 0, 1) := by decide +kernel
theorem dX12_trip_97 : decode cX12_trip 97 = .ok (.dup, 1) := by decide +kernel
theorem dX12_trip_98 : decode cX12_trip 98 = .ok (.getfield 206, 3) := by decide +kernel
theorem dX12_trip_101 : decode cX12_trip 101 = .ok (.iconst 1, 1) := by decide +kernel
theorem dX12_trip_102 : decode cX12_trip 102 = .ok (.iadd, 1) := by decide +kernel
theorem dX12_trip_103 : decode cX12_trip 103 = .ok (.putfield 206, 3) := by decide +kernel
theorem dX12_trip_106 : decode cX12_trip 106 = .ok (.iconst 1, 1) := by decide +kernel
theorem dX12_trip_107 : decode cX12_trip 107 = .ok (.ireturn, 1) := by decide +kernel
def F_X12_trip_b85 (x3 : Int32) (s0 : Int32) (s1 : Int32) (h : PH) : Option (Int32 × PH) :=
  if inb s1 40 = true then
  hb (hs h 151 s1.toNatClampNeg s0) fun h2 =>
  if inb (h2.1 103 75) 40 = true then
  hb (hs h2 152 (h2.1 103 75).toNatClampNeg x3) fun h4 =>
  hb (hs h4 103 75 ((h4.1 103 75) + (1 : Int32))) fun h5 =>
  some ((1 : Int32), h5)
  else none
  else none
set_option maxRecDepth 20000 in
set_option maxHeartbeats 4000000 in
theorem T_X12_trip_b85 {X : CT} (C : CX X 154 cX12_trip 4 RX12 (some .boolean) 1 22) {r0 : Int32} {h0 : PH} : ∀ (x3 : Int32) (s0 : Int32) (s1 : Int32) (h : PH), F_X12_trip_b85 x3 s0 s1 h = some (r0, h0) → V X (QI X r0 h0) h 85 [some (.ref 103), none, none, some (.int x3)] [.int s0, .int s1, .ref 151] := by
  intro x3 s0 s1 h hyp
  unfold F_X12_trip_b85 at hyp
  obtain ⟨g1, hyp⟩ := gd_n hyp
  obtain ⟨h2, eh2, hyp⟩ := hb_n hyp
  refine V_iast (pc := 85) C dX12_trip_85 ak_151 g1 eh2 ?_
  refine V_aload_n (pc := 86) C dX12_trip_86 rfl ?_
  refine V_getR (pc := 87) C dX12_trip_87 lf_X12_171 fk_103_78 ?_
  refine V_aload_n (pc := 90) C dX12_trip_90 rfl ?_
  refine V_getI (pc := 91) C dX12_trip_91 lf_X12_206 fk_103_75 ?_
  refine V_iload_n (pc := 94) C dX12_trip_94 rfl ?_
  obtain ⟨g3, hyp⟩ := gd_n hyp
  obtain ⟨h4, eh4, hyp⟩ := hb_n hyp
  refine V_iast (pc := 95) C dX12_trip_95 ak_152 g3 eh4 ?_
  refine V_aload_n (pc := 96) C dX12_trip_96 rfl ?_
  refine V_dup (pc := 97) C dX12_trip_97 rfl ?_
  refine V_getI (pc := 98) C dX12_trip_98 lf_X12_206 fk_103_75 ?_
  refine V_iconst (pc := 101) C dX12_trip_101 (v := 1) (by decide) ?_
  refine V_iadd (pc := 102) C dX12_trip_102 ?_
  obtain ⟨h5, eh5, hyp⟩ := hb_n hyp
  refine V_putI (pc := 103) C dX12_trip_103 lf_X12_206 fk_103_75 rfl rfl eh5 ?_
  refine V_iconst (pc := 106) C dX12_trip_106 (v := 1) (by decide) ?_
  cases hyp
  exact V_zret C dX12_trip_107 rfl
def F_X12_trip_b66 (x1 : Int32) (x2 : Int32) (x3 : Int32) (s0 : Int32) (s1 : Int32) (h : PH) : Option (Int32 × PH) :=
  if inb s1 40 = true then
  hb (hs h 150 s1.toNatClampNeg s0) fun h2 =>
  if x2 ≤ x1 then
    F_X12_trip_b85 x3 x1 (h2.1 103 75) h2
  else
    F_X12_trip_b85 x3 x2 (h2.1 103 75) h2
  else none
set_option maxRecDepth 20000 in
set_option maxHeartbeats 4000000 in
theorem T_X12_trip_b66 {X : CT} (C : CX X 154 cX12_trip 4 RX12 (some .boolean) 1 22) {r0 : Int32} {h0 : PH} : ∀ (x1 : Int32) (x2 : Int32) (x3 : Int32) (s0 : Int32) (s1 : Int32) (h : PH), F_X12_trip_b66 x1 x2 x3 s0 s1 h = some (r0, h0) → V X (QI X r0 h0) h 66 [some (.ref 103), some (.int x1), some (.int x2), some (.int x3)] [.int s0, .int s1, .ref 150] := by
  intro x1 x2 x3 s0 s1 h hyp
  unfold F_X12_trip_b66 at hyp
  obtain ⟨g1, hyp⟩ := gd_n hyp
  obtain ⟨h2, eh2, hyp⟩ := hb_n hyp
  refine V_iast (pc := 66) C dX12_trip_66 ak_150 g1 eh2 ?_
  refine V_aload_n (pc := 67) C dX12_trip_67 rfl ?_
  refine V_getR (pc := 68) C dX12_trip_68 lf_X12_168 fk_103_77 ?_
  refine V_aload_n (pc := 71) C dX12_trip_71 rfl ?_
  refine V_getI (pc := 72) C dX12_trip_72 lf_X12_206 fk_103_75 ?_
  refine V_iload_n (pc := 75) C dX12_trip_75 rfl ?_
  refine V_iload_n (pc := 76) C dX12_trip_76 rfl ?_
  refine V_icmp_ge (pc := 77) C dX12_trip_77 (tgt := 84) (by decide) (fun q3 => ?_) (fun q3 => ?_)
  · replace hyp := (if_pos q3).symm.trans hyp
    refine V_iload_n (pc := 84) C dX12_trip_84 rfl ?_
    refine V_weak (lv' := [some (.ref 103), none, none, some (.int x3)]) (lvle_s (lvle_n (lvle_n (lvle_s lvle_0)))) ?_
    exact (T_X12_trip_b85 C) x3 x1 (h2.1 103 75) h2 hyp
  · replace hyp := (if_neg q3).symm.trans hyp
    refine V_iload_n (pc := 80) C dX12_trip_80 rfl ?_
    refine V_goto (pc := 81) C dX12_trip_81 (tgt := 85) (by decide) ?_
    refine V_weak (lv' := [some (.ref 103), none, none, some (.int x3)]) (lvle_s (lvle_n (lvle_n (lvle_s lvle_0)))) ?_
    exact (T_X12_trip_b85 C) x3 x2 (h2.1 103 75) h2 hyp
def F_X12_trip (a1 : Int32) (a2 : Int32) (a3 : Int32) (h : PH) : Option (Int32 × PH) :=
  hb (hs h 103 0 (0 : Int32)) fun h1 =>
  bI (F_X12_isFloor a1 h1) fun r2 h3 =>
  if r2 = 0 then
    some ((0 : Int32), h3)
  else
    bI (F_X12_isFloor a2 h3) fun r5 h6 =>
    if r5 = 0 then
      some ((0 : Int32), h6)
    else
      if a1 = a2 then
        some ((0 : Int32), h6)
      else
        bI (F_X12_within a3 (1 : Int32) (9999 : Int32) h6) fun r9 h10 =>
        if r9 = 0 then
          some ((0 : Int32), h10)
        else
          if (h10.1 103 75) = (40 : Int32) then
            some ((0 : Int32), h10)
          else
            if a2 ≤ a1 then
              F_X12_trip_b66 a1 a2 a3 a2 (h10.1 103 75) h10
            else
              F_X12_trip_b66 a1 a2 a3 a1 (h10.1 103 75) h10
set_option maxRecDepth 20000 in
set_option maxHeartbeats 4000000 in
theorem M_X12_trip (E : EV) {a1 : Int32} {a2 : Int32} {a3 : Int32} {r : Int32} {h h2 : PH} (hyp : F_X12_trip a1 a2 a3 h = some (r, h2)) : MI E 154 yX12_trip cX12_trip 4 (some .boolean) 1 22 [.ref 103, .int a1, .int a2, .int a3] h r h2 := by
  refine MI.of 0 (by decide) rfl (fun X e1 C => ?_)
  subst e1
  replace C : CX X 154 cX12_trip 4 RX12 (some .boolean) 1 22 := C
  show V X _ h 0 [some (.ref 103), some (.int a1), some (.int a2), some (.int a3)] []
  unfold F_X12_trip at hyp
  refine V_aload_n (pc := 0) C dX12_trip_0 rfl ?_
  refine V_iconst (pc := 1) C dX12_trip_1 (v := 0) (by decide) ?_
  obtain ⟨h1, eh1, hyp⟩ := hb_n hyp
  refine V_putI (pc := 2) C dX12_trip_2 lf_X12_180 fk_103_0 rfl rfl eh1 ?_
  refine V_aload_n (pc := 5) C dX12_trip_5 rfl ?_
  refine V_iload_n (pc := 6) C dX12_trip_6 rfl ?_
  obtain ⟨r2, h3, eh3, hyp⟩ := bI_n hyp
  refine V_callI (pc := 7) C dX12_trip_7 lm_X12_376 mk_X12_isFloor ok_103 rfl (M_X12_isFloor _ eh3) rfl pd_X12_isFloor (by decide) (by decide) (by decide) (As := [.int a1]) (rest := []) rfl (Nat.le_of_ble_eq_true rfl) ?_
  refine V_if_eq (pc := 10) C dX12_trip_10 (tgt := 46) (by decide) (fun q4 => ?_) (fun q4 => ?_)
  · replace hyp := (if_pos q4).symm.trans hyp
    refine V_iconst (pc := 46) C dX12_trip_46 (v := 0) (by decide) ?_
    cases hyp
    exact V_zret C dX12_trip_47 rfl
  · replace hyp := (if_neg q4).symm.trans hyp
    refine V_aload_n (pc := 13) C dX12_trip_13 rfl ?_
    refine V_iload_n (pc := 14) C dX12_trip_14 rfl ?_
    obtain ⟨r5, h6, eh6, hyp⟩ := bI_n hyp
    refine V_callI (pc := 15) C dX12_trip_15 lm_X12_376 mk_X12_isFloor ok_103 rfl (M_X12_isFloor _ eh6) rfl pd_X12_isFloor (by decide) (by decide) (by decide) (As := [.int a2]) (rest := []) rfl (Nat.le_of_ble_eq_true rfl) ?_
    refine V_if_eq (pc := 18) C dX12_trip_18 (tgt := 46) (by decide) (fun q7 => ?_) (fun q7 => ?_)
    · replace hyp := (if_pos q7).symm.trans hyp
      refine V_iconst (pc := 46) C dX12_trip_46 (v := 0) (by decide) ?_
      cases hyp
      exact V_zret C dX12_trip_47 rfl
    · replace hyp := (if_neg q7).symm.trans hyp
      refine V_iload_n (pc := 21) C dX12_trip_21 rfl ?_
      refine V_iload_n (pc := 22) C dX12_trip_22 rfl ?_
      refine V_icmp_eq (pc := 23) C dX12_trip_23 (tgt := 46) (by decide) (fun q8 => ?_) (fun q8 => ?_)
      · replace hyp := (if_pos q8).symm.trans hyp
        refine V_iconst (pc := 46) C dX12_trip_46 (v := 0) (by decide) ?_
        cases hyp
        exact V_zret C dX12_trip_47 rfl
      · replace hyp := (if_neg q8).symm.trans hyp
        refine V_iload_n (pc := 26) C dX12_trip_26 rfl ?_
        refine V_iconst (pc := 27) C dX12_trip_27 (v := 1) (by decide) ?_
        refine V_sipush (pc := 28) C dX12_trip_28 (v := 9999) (by decide) ?_
        obtain ⟨r9, h10, eh10, hyp⟩ := bI_n hyp
        refine V_statI (pc := 31) C dX12_trip_31 lm_X12_183 ms_X12_within (M_X12_within _ eh10) rfl pd_X12_within (by decide) (by decide) (by decide) (As := [.int a3, .int (1 : Int32), .int (9999 : Int32)]) (rest := []) rfl (Nat.le_of_ble_eq_true rfl) ?_
        refine V_if_eq (pc := 34) C dX12_trip_34 (tgt := 46) (by decide) (fun q11 => ?_) (fun q11 => ?_)
        · replace hyp := (if_pos q11).symm.trans hyp
          refine V_iconst (pc := 46) C dX12_trip_46 (v := 0) (by decide) ?_
          cases hyp
          exact V_zret C dX12_trip_47 rfl
        · replace hyp := (if_neg q11).symm.trans hyp
          refine V_aload_n (pc := 37) C dX12_trip_37 rfl ?_
          refine V_getI (pc := 38) C dX12_trip_38 lf_X12_206 fk_103_75 ?_
          refine V_bipush (pc := 41) C dX12_trip_41 (v := 40) (by decide) ?_
          refine V_icmp_ne (pc := 43) C dX12_trip_43 (tgt := 48) (by decide) (fun q12 => ?_) (fun q12 => ?_)
          · replace hyp := (if_neg q12).symm.trans hyp
            refine V_aload_n (pc := 48) C dX12_trip_48 rfl ?_
            refine V_getR (pc := 49) C dX12_trip_49 lf_X12_165 fk_103_76 ?_
            refine V_aload_n (pc := 52) C dX12_trip_52 rfl ?_
            refine V_getI (pc := 53) C dX12_trip_53 lf_X12_206 fk_103_75 ?_
            refine V_iload_n (pc := 56) C dX12_trip_56 rfl ?_
            refine V_iload_n (pc := 57) C dX12_trip_57 rfl ?_
            refine V_icmp_ge (pc := 58) C dX12_trip_58 (tgt := 65) (by decide) (fun q13 => ?_) (fun q13 => ?_)
            · replace hyp := (if_pos q13).symm.trans hyp
              refine V_iload_n (pc := 65) C dX12_trip_65 rfl ?_
              refine V_weak (lv' := [some (.ref 103), some (.int a1), some (.int a2), some (.int a3)]) (lvle_s (lvle_s (lvle_s (lvle_s lvle_0)))) ?_
              exact (T_X12_trip_b66 C) a1 a2 a3 a2 (h10.1 103 75) h10 hyp
            · replace hyp := (if_neg q13).symm.trans hyp
              refine V_iload_n (pc := 61) C dX12_trip_61 rfl ?_
              refine V_goto (pc := 62) C dX12_trip_62 (tgt := 66) (by decide) ?_
              refine V_weak (lv' := [some (.ref 103), some (.int a1), some (.int a2), some (.int a3)]) (lvle_s (lvle_s (lvle_s (lvle_s lvle_0)))) ?_
              exact (T_X12_trip_b66 C) a1 a2 a3 a1 (h10.1 103 75) h10 hyp
          · replace hyp := (if_pos q12).symm.trans hyp
            refine V_iconst (pc := 46) C dX12_trip_46 (v := 0) (by decide) ?_
            cases hyp
            exact V_zret C dX12_trip_47 rfl
theorem dX12_gauge_0 : decode cX12_gauge 0 = .ok (.aload_n 0, 1) := by decide +kernel
theorem dX12_gauge_1 : decode cX12_gauge 1 = .ok (.iconst 0, 1) := by decide +kernel
theorem dX12_gauge_2 : decode cX12_gauge 2 = .ok (.putfield 180, 3) := by decide +kernel
theorem dX12_gauge_5 : decode cX12_gauge 5 = .ok (.iload_n 1, 1) := by decide +kernel
theorem dX12_gauge_6 : decode cX12_gauge 6 = .ok (.iconst 0, 1) := by decide +kernel
theorem dX12_gauge_7 : decode cX12_gauge 7 = .ok (.iconst 2, 1) := by decide +kernel
theorem dX12_gauge_8 : decode cX12_gauge 8 = .ok (.invokestatic 183, 3) := by decide +kernel
theorem dX12_gauge_11 : decode cX12_gauge 11 = .ok (.ifCond .eq 42, 3) := by decide +kernel
theorem dX12_gauge_14 : decode cX12_gauge 14 = .ok (.iload_n 2, 1) := by decide +kernel
theorem dX12_gauge_15 : decode cX12_gauge 15 = .ok (.iload_n 1, 1) := by decide +kernel
theorem dX12_gauge_16 : decode cX12_gauge 16 = .ok (.ifCond .ne 7, 3) := by decide +kernel
theorem dX12_gauge_19 : decode cX12_gauge 19 = .ok (.iconst 0, 1) := by decide +kernel
theorem dX12_gauge_20 : decode cX12_gauge 20 = .ok (.goto 4, 3) := by decide +kernel
theorem dX12_gauge_23 : decode cX12_gauge 23 = .ok (.iconst 1, 1) := by decide +kernel
theorem dX12_gauge_24 : decode cX12_gauge 24 = .ok (.iload_n 1, 1) := by decide +kernel
theorem dX12_gauge_25 : decode cX12_gauge 25 = .ok (.ifCond .ne 8, 3) := by decide +kernel
theorem dX12_gauge_28 : decode cX12_gauge 28 = .ok (.bipush 50, 2) := by decide +kernel
theorem dX12_gauge_30 : decode cX12_gauge 30 = .ok (.goto 17, 3) := by decide +kernel
theorem dX12_gauge_33 : decode cX12_gauge 33 = .ok (.iload_n 1, 1) := by decide +kernel
theorem dX12_gauge_34 : decode cX12_gauge 34 = .ok (.iconst 1, 1) := by decide +kernel
theorem dX12_gauge_35 : decode cX12_gauge 35 = .ok (.if_icmp .ne 9, 3) := by decide +kernel
theorem dX12_gauge_38 : decode cX12_gauge 38 = .ok (.ldc_w 488, 3) := by decide +kernel
theorem dX12_gauge_41 : decode cX12_gauge 41 = .ok (.goto 6, 3) := by decide +kernel
theorem dX12_gauge_44 : decode cX12_gauge 44 = .ok (.sipush 9999, 3) := by decide +kernel
theorem dX12_gauge_47 : decode cX12_gauge 47 = .ok (.invokestatic 183, 3) := by decide +kernel
theorem dX12_gauge_50 : decode cX12_gauge 50 = .ok (.ifCond .ne 5, 3) := by decide +kernel
theorem dX12_gauge_53 : decode cX12_gauge 53 = .ok (.iconst 0, 1) := by decide +kernel
theorem dX12_gauge_54 : decode cX12_gauge 54 = .ok (.ireturn, 1) := by decide +kernel
theorem dX12_gauge_55 : decode cX12_gauge 55 = .ok (.iload_n 1, 1) := by decide +kernel
theorem dX12_gauge_56 : decode cX12_gauge 56 = .ok (.ifCond .ne 8, 3) := by decide +kernel
theorem dX12_gauge_59 : decode cX12_gauge 59 = .ok (.aload_n 0, 1) := by decide +kernel
theorem dX12_gauge_60 : decode cX12_gauge 60 = .ok (.iload_n 2, 1) := by decide +kernel
theorem dX12_gauge_61 : decode cX12_gauge 61 = .ok (.putfield 209, 3) := by decide +kernel
theorem dX12_gauge_64 : decode cX12_gauge 64 = .ok (.iload_n 1, 1) := by decide +kernel
theorem dX12_gauge_65 : decode cX12_gauge 65 = .ok (.iconst 1, 1) := by decide +kernel
theorem dX12_gauge_66 : decode cX12_gauge 66 = .ok (.if_icmp .ne 8, 3) := by decide +kernel
theorem dX12_gauge_69 : decode cX12_gauge 69 = .ok (.aload_n 0, 1) := by decide +kernel
theorem dX12_gauge_70 : decode cX12_gauge 70 = .ok (.iload_n 2, 1) := by decide +kernel
theorem dX12_gauge_71 : decode cX12_gauge 71 = .ok (.putfield 174, 3) := by decide +kernel
theorem dX12_gauge_74 : decode cX12_gauge 74 = .ok (.iload_n 1, 1) := by decide +kernel
theorem dX12_gauge_75 : decode cX12_gauge 75 = .ok (.iconst 2, 1) := by decide +kernel
theorem dX12_gauge_76 : decode cX12_gauge 76 = .ok (.if_icmp .ne 8, 3) := by decide +kernel
theorem dX12_gauge_79 : decode cX12_gauge 79 = .ok (.aload_n 0, 1) := by decide +kernel
theorem dX12_gauge_80 : decode cX12_gauge 80 = .ok (.iload_n 2, 1) := by decide +kernel
theorem dX12_gauge_81 : decode cX12_gauge 81 = .ok (.putfield 177, 3) := by decide +kernel
theorem dX12_gauge_84 : decode cX12_gauge 84 = .ok (.iconst 1, 1) := by decide +kernel
theorem dX12_gauge_85 : decode cX12_gauge 85 = .ok (.ireturn, 1) := by decide +kernel
def F_X12_gauge_b74 (x1 : Int32) (x2 : Int32) (h : PH) : Option (Int32 × PH) :=
  if x1 = (2 : Int32) then
    hb (hs h 103 81 x2) fun h2 =>
    some ((1 : Int32), h2)
  else
    some ((1 : Int32), h)
set_option maxRecDepth 20000 in
set_option maxHeartbeats 4000000 in
theorem T_X12_gauge_b74 {X : CT} (C : CX X 154 cX12_gauge 3 RX12 (some .boolean) 1 22) {r0 : Int32} {h0 : PH} : ∀ (x1 : Int32) (x2 : Int32) (h : PH), F_X12_gauge_b74 x1 x2 h = some (r0, h0) → V X (QI X r0 h0) h 74 [some (.ref 103), some (.int x1), some (.int x2)] [] := by
  intro x1 x2 h hyp
  unfold F_X12_gauge_b74 at hyp
  refine V_iload_n (pc := 74) C dX12_gauge_74 rfl ?_
  refine V_iconst (pc := 75) C dX12_gauge_75 (v := 2) (by decide) ?_
  refine V_icmp_ne (pc := 76) C dX12_gauge_76 (tgt := 84) (by decide) (fun q1 => ?_) (fun q1 => ?_)
  · replace hyp := (if_neg q1).symm.trans hyp
    refine V_iconst (pc := 84) C dX12_gauge_84 (v := 1) (by decide) ?_
    cases hyp
    exact V_zret C dX12_gauge_85 rfl
  · replace hyp := (if_pos q1).symm.trans hyp
    refine V_aload_n (pc := 79) C dX12_gauge_79 rfl ?_
    refine V_iload_n (pc := 80) C dX12_gauge_80 rfl ?_
    obtain ⟨h2, eh2, hyp⟩ := hb_n hyp
    refine V_putI (pc := 81) C dX12_gauge_81 lf_X12_177 fk_103_81 rfl rfl eh2 ?_
    refine V_iconst (pc := 84) C dX12_gauge_84 (v := 1) (by decide) ?_
    cases hyp
    exact V_zret C dX12_gauge_85 rfl
def F_X12_gauge_b64 (x1 : Int32) (x2 : Int32) (h : PH) : Option (Int32 × PH) :=
  if x1 = (1 : Int32) then
    hb (hs h 103 80 x2) fun h2 =>
    F_X12_gauge_b74 x1 x2 h2
  else
    F_X12_gauge_b74 x1 x2 h
set_option maxRecDepth 20000 in
set_option maxHeartbeats 4000000 in
theorem T_X12_gauge_b64 {X : CT} (C : CX X 154 cX12_gauge 3 RX12 (some .boolean) 1 22) {r0 : Int32} {h0 : PH} : ∀ (x1 : Int32) (x2 : Int32) (h : PH), F_X12_gauge_b64 x1 x2 h = some (r0, h0) → V X (QI X r0 h0) h 64 [some (.ref 103), some (.int x1), some (.int x2)] [] := by
  intro x1 x2 h hyp
  unfold F_X12_gauge_b64 at hyp
  refine V_iload_n (pc := 64) C dX12_gauge_64 rfl ?_
  refine V_iconst (pc := 65) C dX12_gauge_65 (v := 1) (by decide) ?_
  refine V_icmp_ne (pc := 66) C dX12_gauge_66 (tgt := 74) (by decide) (fun q1 => ?_) (fun q1 => ?_)
  · replace hyp := (if_neg q1).symm.trans hyp
    refine V_weak (lv' := [some (.ref 103), some (.int x1), some (.int x2)]) (lvle_s (lvle_s (lvle_s lvle_0))) ?_
    exact (T_X12_gauge_b74 C) x1 x2 h hyp
  · replace hyp := (if_pos q1).symm.trans hyp
    refine V_aload_n (pc := 69) C dX12_gauge_69 rfl ?_
    refine V_iload_n (pc := 70) C dX12_gauge_70 rfl ?_
    obtain ⟨h2, eh2, hyp⟩ := hb_n hyp
    refine V_putI (pc := 71) C dX12_gauge_71 lf_X12_174 fk_103_80 rfl rfl eh2 ?_
    refine V_weak (lv' := [some (.ref 103), some (.int x1), some (.int x2)]) (lvle_s (lvle_s (lvle_s lvle_0))) ?_
    exact (T_X12_gauge_b74 C) x1 x2 h2 hyp
def F_X12_gauge_b47 (x1 : Int32) (x2 : Int32) (s0 : Int32) (s1 : Int32) (s2 : Int32) (h : PH) : Option (Int32 × PH) :=
  bI (F_X12_within s2 s1 s0 h) fun r1 h2 =>
  if r1 = 0 then
    some ((0 : Int32), h2)
  else
    if x1 = 0 then
      hb (hs h2 103 79 x2) fun h5 =>
      F_X12_gauge_b64 x1 x2 h5
    else
      F_X12_gauge_b64 x1 x2 h2
set_option maxRecDepth 20000 in
set_option maxHeartbeats 4000000 in
theorem T_X12_gauge_b47 {X : CT} (C : CX X 154 cX12_gauge 3 RX12 (some .boolean) 1 22) {r0 : Int32} {h0 : PH} : ∀ (x1 : Int32) (x2 : Int32) (s0 : Int32) (s1 : Int32) (s2 : Int32) (h : PH), F_X12_gauge_b47 x1 x2 s0 s1 s2 h = some (r0, h0) → V X (QI X r0 h0) h 47 [some (.ref 103), some (.int x1), some (.int x2)] [.int s0, .int s1, .int s2] := by
  intro x1 x2 s0 s1 s2 h hyp
  unfold F_X12_gauge_b47 at hyp
  obtain ⟨r1, h2, eh2, hyp⟩ := bI_n hyp
  refine V_statI (pc := 47) C dX12_gauge_47 lm_X12_183 ms_X12_within (M_X12_within _ eh2) rfl pd_X12_within (by decide) (by decide) (by decide) (As := [.int s2, .int s1, .int s0]) (rest := []) rfl (Nat.le_of_ble_eq_true rfl) ?_
  refine V_if_ne (pc := 50) C dX12_gauge_50 (tgt := 55) (by decide) (fun q3 => ?_) (fun q3 => ?_)
  · replace hyp := (if_neg q3).symm.trans hyp
    refine V_iload_n (pc := 55) C dX12_gauge_55 rfl ?_
    refine V_if_ne (pc := 56) C dX12_gauge_56 (tgt := 64) (by decide) (fun q4 => ?_) (fun q4 => ?_)
    · replace hyp := (if_neg q4).symm.trans hyp
      refine V_weak (lv' := [some (.ref 103), some (.int x1), some (.int x2)]) (lvle_s (lvle_s (lvle_s lvle_0))) ?_
      exact (T_X12_gauge_b64 C) x1 x2 h2 hyp
    · replace hyp := (if_pos q4).symm.trans hyp
      refine V_aload_n (pc := 59) C dX12_gauge_59 rfl ?_
      refine V_iload_n (pc := 60) C dX12_gauge_60 rfl ?_
      obtain ⟨h5, eh5, hyp⟩ := hb_n hyp
      refine V_putI (pc := 61) C dX12_gauge_61 lf_X12_209 fk_103_79 rfl rfl eh5 ?_
      refine V_weak (lv' := [some (.ref 103), some (.int x1), some (.int x2)]) (lvle_s (lvle_s (lvle_s lvle_0))) ?_
      exact (T_X12_gauge_b64 C) x1 x2 h5 hyp
  · replace hyp := (if_pos q3).symm.trans hyp
    refine V_iconst (pc := 53) C dX12_gauge_53 (v := 0) (by decide) ?_
    cases hyp
    exact V_zret C dX12_gauge_54 rfl
def F_X12_gauge_b24 (x1 : Int32) (x2 : Int32) (s0 : Int32) (s1 : Int32) (h : PH) : Option (Int32 × PH) :=
  if x1 = 0 then
    F_X12_gauge_b47 x1 x2 (50 : Int32) s0 s1 h
  else
    if x1 = (1 : Int32) then
      F_X12_gauge_b47 x1 x2 (999999 : Int32) s0 s1 h
    else
      F_X12_gauge_b47 x1 x2 (9999 : Int32) s0 s1 h
set_option maxRecDepth 20000 in
set_option maxHeartbeats 4000000 in
theorem T_X12_gauge_b24 {X : CT} (C : CX X 154 cX12_gauge 3 RX12 (some .boolean) 1 22) {r0 : Int32} {h0 : PH} : ∀ (x1 : Int32) (x2 : Int32) (s0 : Int32) (s1 : Int32) (h : PH), F_X12_gauge_b24 x1 x2 s0 s1 h = some (r0, h0) → V X (QI X r0 h0) h 24 [some (.ref 103), some (.int x1), some (.int x2)] [.int s0, .int s1] := by
  intro x1 x2 s0 s1 h hyp
  unfold F_X12_gauge_b24 at hyp
  refine V_iload_n (pc := 24) C dX12_gauge_24 rfl ?_
  refine V_if_ne (pc := 25) C dX12_gauge_25 (tgt := 33) (by decide) (fun q1 => ?_) (fun q1 => ?_)
  · replace hyp := (if_neg q1).symm.trans hyp
    refine V_iload_n (pc := 33) C dX12_gauge_33 rfl ?_
    refine V_iconst (pc := 34) C dX12_gauge_34 (v := 1) (by decide) ?_
    refine V_icmp_ne (pc := 35) C dX12_gauge_35 (tgt := 44) (by decide) (fun q2 => ?_) (fun q2 => ?_)
    · replace hyp := (if_neg q2).symm.trans hyp
      refine V_sipush (pc := 44) C dX12_gauge_44 (v := 9999) (by decide) ?_
      refine V_weak (lv' := [some (.ref 103), some (.int x1), some (.int x2)]) (lvle_s (lvle_s (lvle_s lvle_0))) ?_
      exact (T_X12_gauge_b47 C) x1 x2 (9999 : Int32) s0 s1 h hyp
    · replace hyp := (if_pos q2).symm.trans hyp
      refine V_ldcw (pc := 38) C dX12_gauge_38 lc_X12_488 ?_
      refine V_goto (pc := 41) C dX12_gauge_41 (tgt := 47) (by decide) ?_
      refine V_weak (lv' := [some (.ref 103), some (.int x1), some (.int x2)]) (lvle_s (lvle_s (lvle_s lvle_0))) ?_
      exact (T_X12_gauge_b47 C) x1 x2 (999999 : Int32) s0 s1 h hyp
  · replace hyp := (if_pos q1).symm.trans hyp
    refine V_bipush (pc := 28) C dX12_gauge_28 (v := 50) (by decide) ?_
    refine V_goto (pc := 30) C dX12_gauge_30 (tgt := 47) (by decide) ?_
    refine V_weak (lv' := [some (.ref 103), some (.int x1), some (.int x2)]) (lvle_s (lvle_s (lvle_s lvle_0))) ?_
    exact (T_X12_gauge_b47 C) x1 x2 (50 : Int32) s0 s1 h hyp
def F_X12_gauge (a1 : Int32) (a2 : Int32) (h : PH) : Option (Int32 × PH) :=
  hb (hs h 103 0 (0 : Int32)) fun h1 =>
  bI (F_X12_within a1 (0 : Int32) (2 : Int32) h1) fun r2 h3 =>
  if r2 = 0 then
    some ((0 : Int32), h3)
  else
    if a1 = 0 then
      F_X12_gauge_b24 a1 a2 (0 : Int32) a2 h3
    else
      F_X12_gauge_b24 a1 a2 (1 : Int32) a2 h3
set_option maxRecDepth 20000 in
set_option maxHeartbeats 4000000 in
theorem M_X12_gauge (E : EV) {a1 : Int32} {a2 : Int32} {r : Int32} {h h2 : PH} (hyp : F_X12_gauge a1 a2 h = some (r, h2)) : MI E 154 yX12_gauge cX12_gauge 3 (some .boolean) 1 22 [.ref 103, .int a1, .int a2] h r h2 := by
  refine MI.of 0 (by decide) rfl (fun X e1 C => ?_)
  subst e1
  replace C : CX X 154 cX12_gauge 3 RX12 (some .boolean) 1 22 := C
  show V X _ h 0 [some (.ref 103), some (.int a1), some (.int a2)] []
  unfold F_X12_gauge at hyp
  refine V_aload_n (pc := 0) C dX12_gauge_0 rfl ?_
  refine V_iconst (pc := 1) C dX12_gauge_1 (v := 0) (by decide) ?_
  obtain ⟨h1, eh1, hyp⟩ := hb_n hyp
  refine V_putI (pc := 2) C dX12_gauge_2 lf_X12_180 fk_103_0 rfl rfl eh1 ?_
  refine V_iload_n (pc := 5) C dX12_gauge_5 rfl ?_
  refine V_iconst (pc := 6) C dX12_gauge_6 (v := 0) (by decide) ?_
  refine V_iconst (pc := 7) C dX12_gauge_7 (v := 2) (by decide) ?_
  obtain ⟨r2, h3, eh3, hyp⟩ := bI_n hyp
  refine V_statI (pc := 8) C dX12_gauge_8 lm_X12_183 ms_X12_within (M_X12_within _ eh3) rfl pd_X12_within (by decide) (by decide) (by decide) (As := [.int a1, .int (0 : Int32), .int (2 : Int32)]) (rest := []) rfl (Nat.le_of_ble_eq_true rfl) ?_
  refine V_if_eq (pc := 11) C dX12_gauge_11 (tgt := 53) (by decide) (fun q4 => ?_) (fun q4 => ?_)
  · replace hyp := (if_pos q4).symm.trans hyp
    refine V_iconst (pc := 53) C dX12_gauge_53 (v := 0) (by decide) ?_
    cases hyp
    exact V_zret C dX12_gauge_54 rfl
  · replace hyp := (if_neg q4).symm.trans hyp
    refine V_iload_n (pc := 14) C dX12_gauge_14 rfl ?_
    refine V_iload_n (pc := 15) C dX12_gauge_15 rfl ?_
    refine V_if_ne (pc := 16) C dX12_gauge_16 (tgt := 23) (by decide) (fun q5 => ?_) (fun q5 => ?_)
    · replace hyp := (if_neg q5).symm.trans hyp
      refine V_iconst (pc := 23) C dX12_gauge_23 (v := 1) (by decide) ?_
      refine V_weak (lv' := [some (.ref 103), some (.int a1), some (.int a2)]) (lvle_s (lvle_s (lvle_s lvle_0))) ?_
      exact (T_X12_gauge_b24 C) a1 a2 (1 : Int32) a2 h3 hyp
    · replace hyp := (if_pos q5).symm.trans hyp
      refine V_iconst (pc := 19) C dX12_gauge_19 (v := 0) (by decide) ?_
      refine V_goto (pc := 20) C dX12_gauge_20 (tgt := 24) (by decide) ?_
      refine V_weak (lv' := [some (.ref 103), some (.int a1), some (.int a2)]) (lvle_s (lvle_s (lvle_s lvle_0))) ?_
      exact (T_X12_gauge_b24 C) a1 a2 (0 : Int32) a2 h3 hyp
theorem dX12_bends_0 : decode cX12_bends 0 = .ok (.aload_n 0, 1) := by decide +kernel
theorem dX12_bends_1 : decode cX12_bends 1 = .ok (.getfield 165, 3) := by decide +kernel
theorem dX12_bends_4 : decode cX12_bends 4 = .ok (.iload_n 1, 1) := by decide +kernel
theorem dX12_bends_5 : decode cX12_bends 5 = .ok (.iaload, 1) := by decide +kernel
theorem dX12_bends_6 : decode cX12_bends 6 = .ok (.iload_n 2, 1) := by decide +kernel
theorem dX12_bends_7 : decode cX12_bends 7 = .ok (.if_icmp .gt 17, 3) := by decide +kernel
theorem dX12_bends_10 : decode cX12_bends 10 = .ok (.aload_n 0, 1) := by decide +kernel
theorem dX12_bends_11 : decode cX12_bends 11 = .ok (.getfield 168, 3) := by decide +kernel
theorem dX12_bends_14 : decode cX12_bends 14 = .ok (.iload_n 1, 1) := by decide +kernel
theorem dX12_bends_15 : decode cX12_bends 15 = .ok (.iaload, 1) := by decide +kernel
theorem dX12_bends_16 : decode cX12_bends 16 = .ok (.iload_n 2, 1) := by decide +kernel
theorem dX12_bends_17 : decode cX12_bends 17 = .ok (.if_icmp .le 7, 3) := by decide +kernel
theorem dX12_bends_20 : decode cX12_bends 20 = .ok (.iconst 1, 1) := by decide +kernel
theorem dX12_bends_21 : decode cX12_bends 21 = .ok (.goto 4, 3) := by decide +kernel
theorem dX12_bends_24 : decode cX12_bends 24 = .ok (.iconst 0, 1) := by decide +kernel
theorem dX12_bends_25 : decode cX12_bends 25 = .ok (.ireturn, 1) := by decide +kernel
def F_X12_bends_b24 (h : PH) : Option (Int32 × PH) :=
  some ((0 : Int32), h)
set_option maxRecDepth 20000 in
set_option maxHeartbeats 4000000 in
theorem T_X12_bends_b24 {X : CT} (C : CX X 154 cX12_bends 3 RX12 (some .boolean) 0 0) {r0 : Int32} {h0 : PH} : ∀ (h : PH), F_X12_bends_b24  h = some (r0, h0) → V X (QI X r0 h0) h 24 [none, none, none] [] := by
  intro  h hyp
  unfold F_X12_bends_b24 at hyp
  refine V_iconst (pc := 24) C dX12_bends_24 (v := 0) (by decide) ?_
  cases hyp
  exact V_zret C dX12_bends_25 rfl
def F_X12_bends (a1 : Int32) (a2 : Int32) (h : PH) : Option (Int32 × PH) :=
  if inb a1 40 = true then
  if a2 < (h.1 150 a1.toNatClampNeg) then
    F_X12_bends_b24  h
  else
    if inb a1 40 = true then
    if (h.1 151 a1.toNatClampNeg) ≤ a2 then
      F_X12_bends_b24  h
    else
      some ((1 : Int32), h)
    else none
  else none
set_option maxRecDepth 20000 in
set_option maxHeartbeats 4000000 in
theorem M_X12_bends (E : EV) {a1 : Int32} {a2 : Int32} {r : Int32} {h h2 : PH} (hyp : F_X12_bends a1 a2 h = some (r, h2)) : MI E 154 yX12_bends cX12_bends 3 (some .boolean) 0 0 [.ref 103, .int a1, .int a2] h r h2 := by
  refine MI.of 0 (by decide) rfl (fun X e1 C => ?_)
  subst e1
  replace C : CX X 154 cX12_bends 3 RX12 (some .boolean) 0 0 := C
  show V X _ h 0 [some (.ref 103), some (.int a1), some (.int a2)] []
  unfold F_X12_bends at hyp
  refine V_aload_n (pc := 0) C dX12_bends_0 rfl ?_
  refine V_getR (pc := 1) C dX12_bends_1 lf_X12_165 fk_103_76 ?_
  refine V_iload_n (pc := 4) C dX12_bends_4 rfl ?_
  obtain ⟨g1, hyp⟩ := gd_n hyp
  refine V_iald (pc := 5) C dX12_bends_5 ak_150 g1 ?_
  refine V_iload_n (pc := 6) C dX12_bends_6 rfl ?_
  refine V_icmp_gt (pc := 7) C dX12_bends_7 (tgt := 24) (by decide) (fun q2 => ?_) (fun q2 => ?_)
  · replace hyp := (if_pos q2).symm.trans hyp
    refine V_weak (lv' := [none, none, none]) (lvle_n (lvle_n (lvle_n lvle_0))) ?_
    exact (T_X12_bends_b24 C) h hyp
  · replace hyp := (if_neg q2).symm.trans hyp
    refine V_aload_n (pc := 10) C dX12_bends_10 rfl ?_
    refine V_getR (pc := 11) C dX12_bends_11 lf_X12_168 fk_103_77 ?_
    refine V_iload_n (pc := 14) C dX12_bends_14 rfl ?_
    obtain ⟨g3, hyp⟩ := gd_n hyp
    refine V_iald (pc := 15) C dX12_bends_15 ak_151 g3 ?_
    refine V_iload_n (pc := 16) C dX12_bends_16 rfl ?_
    refine V_icmp_le (pc := 17) C dX12_bends_17 (tgt := 24) (by decide) (fun q4 => ?_) (fun q4 => ?_)
    · replace hyp := (if_pos q4).symm.trans hyp
      refine V_weak (lv' := [none, none, none]) (lvle_n (lvle_n (lvle_n lvle_0))) ?_
      exact (T_X12_bends_b24 C) h hyp
    · replace hyp := (if_neg q4).symm.trans hyp
      refine V_iconst (pc := 20) C dX12_bends_20 (v := 1) (by decide) ?_
      refine V_goto (pc := 21) C dX12_bends_21 (tgt := 25) (by decide) ?_
      cases hyp
      exact V_zret C dX12_bends_25 rfl
theorem dX12_trueOf_0 : decode cX12_trueOf 0 = .ok (.aload_n 0, 1) := by decide +kernel
theorem dX12_trueOf_1 : decode cX12_trueOf 1 = .ok (.getfield 171, 3) := by decide +kernel
theorem dX12_trueOf_4 : decode cX12_trueOf 4 = .ok (.iload_n 1, 1) := by decide +kernel
theorem dX12_trueOf_5 : decode cX12_trueOf 5 = .ok (.iaload, 1) := by decide +kernel
theorem dX12_trueOf_6 : decode cX12_trueOf 6 = .ok (.iload_n 2, 1) := by decide +kernel
theorem dX12_trueOf_7 : decode cX12_trueOf 7 = .ok (.aload_n 0, 1) := by decide +kernel
theorem dX12_trueOf_8 : decode cX12_trueOf 8 = .ok (.getfield 171, 3) := by decide +kernel
theorem dX12_trueOf_11 : decode cX12_trueOf 11 = .ok (.iload_n 1, 1) := by decide +kernel
theorem dX12_trueOf_12 : decode cX12_trueOf 12 = .ok (.iaload, 1) := by decide +kernel
theorem dX12_trueOf_13 : decode cX12_trueOf 13 = .ok (.aload_n 0, 1) := by decide +kernel
theorem dX12_trueOf_14 : decode cX12_trueOf 14 = .ok (.getfield 209, 3) := by decide +kernel
theorem dX12_trueOf_17 : decode cX12_trueOf 17 = .ok (.imul, 1) := by decide +kernel
theorem dX12_trueOf_18 : decode cX12_trueOf 18 = .ok (.bipush 100, 2) := by decide +kernel
theorem dX12_trueOf_20 : decode cX12_trueOf 20 = .ok (.idiv, 1) := by decide +kernel
theorem dX12_trueOf_21 : decode cX12_trueOf 21 = .ok (.imul, 1) := by decide +kernel
theorem dX12_trueOf_22 : decode cX12_trueOf 22 = .ok (.iadd, 1) := by decide +kernel
theorem dX12_trueOf_23 : decode cX12_trueOf 23 = .ok (.ireturn, 1) := by decide +kernel
def F_X12_trueOf (a1 : Int32) (a2 : Int32) (h : PH) : Option (Int32 × PH) :=
  if inb a1 40 = true then
  some ((h.1 152 a1.toNatClampNeg) + (a2 * (((h.1 152 a1.toNatClampNeg) * (h.1 103 79)) / (100 : Int32))), h)
  else none
set_option maxRecDepth 20000 in
set_option maxHeartbeats 4000000 in
theorem M_X12_trueOf (E : EV) {a1 : Int32} {a2 : Int32} {r : Int32} {h h2 : PH} (hyp : F_X12_trueOf a1 a2 h = some (r, h2)) : MI E 154 yX12_trueOf cX12_trueOf 3 (some .int) 0 0 [.ref 103, .int a1, .int a2] h r h2 := by
  refine MI.of 0 (by decide) rfl (fun X e1 C => ?_)
  subst e1
  replace C : CX X 154 cX12_trueOf 3 RX12 (some .int) 0 0 := C
  show V X _ h 0 [some (.ref 103), some (.int a1), some (.int a2)] []
  unfold F_X12_trueOf at hyp
  refine V_aload_n (pc := 0) C dX12_trueOf_0 rfl ?_
  refine V_getR (pc := 1) C dX12_trueOf_1 lf_X12_171 fk_103_78 ?_
  refine V_iload_n (pc := 4) C dX12_trueOf_4 rfl ?_
  obtain ⟨g1, hyp⟩ := gd_n hyp
  refine V_iald (pc := 5) C dX12_trueOf_5 ak_152 g1 ?_
  refine V_iload_n (pc := 6) C dX12_trueOf_6 rfl ?_
  refine V_aload_n (pc := 7) C dX12_trueOf_7 rfl ?_
  refine V_getR (pc := 8) C dX12_trueOf_8 lf_X12_171 fk_103_78 ?_
  refine V_iload_n (pc := 11) C dX12_trueOf_11 rfl ?_
  refine V_iald (pc := 12) C dX12_trueOf_12 ak_152 g1 ?_
  refine V_aload_n (pc := 13) C dX12_trueOf_13 rfl ?_
  refine V_getI (pc := 14) C dX12_trueOf_14 lf_X12_209 fk_103_79 ?_
  refine V_imul (pc := 17) C dX12_trueOf_17 ?_
  refine V_bipush (pc := 18) C dX12_trueOf_18 (v := 100) (by decide) ?_
  refine V_idiv (pc := 20) C dX12_trueOf_20 (by decide) ?_
  refine V_imul (pc := 21) C dX12_trueOf_21 ?_
  refine V_iadd (pc := 22) C dX12_trueOf_22 ?_
  cases hyp
  exact V_iret C dX12_trueOf_23
theorem dX12_bendsOf_0 : decode cX12_bendsOf 0 = .ok (.iconst 0, 1) := by decide +kernel
theorem dX12_bendsOf_1 : decode cX12_bendsOf 1 = .ok (.istore_n 3, 1) := by decide +kernel
theorem dX12_bendsOf_2 : decode cX12_bendsOf 2 = .ok (.iconst 0, 1) := by decide +kernel
theorem dX12_bendsOf_3 : decode cX12_bendsOf 3 = .ok (.istore 4, 2) := by decide +kernel
theorem dX12_bendsOf_5 : decode cX12_bendsOf 5 = .ok (.iload 4, 2) := by decide +kernel
theorem dX12_bendsOf_7 : decode cX12_bendsOf 7 = .ok (.aload_n 0, 1) := by decide +kernel
theorem dX12_bendsOf_8 : decode cX12_bendsOf 8 = .ok (.getfield 206, 3) := by decide +kernel
theorem dX12_bendsOf_11 : decode cX12_bendsOf 11 = .ok (.if_icmp .ge 33, 3) := by decide +kernel
theorem dX12_bendsOf_14 : decode cX12_bendsOf 14 = .ok (.iload_n 3, 1) := by decide +kernel
theorem dX12_bendsOf_15 : decode cX12_bendsOf 15 = .ok (.aload_n 0, 1) := by decide +kernel
theorem dX12_bendsOf_16 : decode cX12_bendsOf 16 = .ok (.iload 4, 2) := by decide +kernel
theorem dX12_bendsOf_18 : decode cX12_bendsOf 18 = .ok (.iload_n 1, 1) := by decide +kernel
theorem dX12_bendsOf_19 : decode cX12_bendsOf 19 = .ok (.invokevirtual 489, 3) := by decide +kernel
theorem dX12_bendsOf_22 : decode cX12_bendsOf 22 = .ok (.ifCond .eq 13, 3) := by decide +kernel
theorem dX12_bendsOf_25 : decode cX12_bendsOf 25 = .ok (.aload_n 0, 1) := by decide +kernel
theorem dX12_bendsOf_26 : decode cX12_bendsOf 26 = .ok (.iload 4, 2) := by decide +kernel
theorem dX12_bendsOf_28 : decode cX12_bendsOf 28 = .ok (.iload_n 2, 1) := by decide +kernel
theorem dX12_bendsOf_29 : decode cX12_bendsOf 29 = .ok (.invokevirtual 492, 3) := by decide +kernel
theorem dX12_bendsOf_32 : decode cX12_bendsOf 32 = .ok (.goto 4, 3) := by decide +kernel
theorem dX12_bendsOf_35 : decode cX12_bendsOf 35 = .ok (.iconst 0, 1) := by decide +kernel
theorem dX12_bendsOf_36 : decode cX12_bendsOf 36 = .ok (.iadd, 1) := by decide +kernel
theorem dX12_bendsOf_37 : decode cX12_bendsOf 37 = .ok (.istore_n 3, 1) := by decide +kernel
theorem dX12_bendsOf_38 : decode cX12_bendsOf 38 = .ok (.iinc 4 1, 3) := by decide +kernel
theorem dX12_bendsOf_41 : decode cX12_bendsOf 41 = .ok (.goto (-36), 3) := by decide +kernel
theorem dX12_bendsOf_44 : decode cX12_bendsOf 44 = .ok (.iload_n 3, 1) := by decide +kernel
theorem dX12_bendsOf_45 : decode cX12_bendsOf 45 = .ok (.ireturn, 1) := by decide +kernel
def F_X12_bendsOf_b36 (N : Nat) (rc5 : Int32 → Int32 → Int32 → Int32 → PH → Option (Int32 × PH)) (x1 : Int32) (x2 : Int32) (x4 : Int32) (s0 : Int32) (s1 : Int32) (h : PH) : Option (Int32 × PH) :=
  ib (s1 + s0) fun v1 =>
  ib (x4 + (1 : Int32)) fun v2 =>
  rc5 x1 x2 v1 v2 h
set_option maxRecDepth 20000 in
set_option maxHeartbeats 4000000 in
theorem T_X12_bendsOf_b36 {X : CT} (C : CX X 154 cX12_bendsOf 5 RX12 (some .int) 1 22) {r0 : Int32} {h0 : PH} {N : Nat} {rc5 : Int32 → Int32 → Int32 → Int32 → PH → Option (Int32 × PH)} (hr5 : ∀ (x1 : Int32) (x2 : Int32) (x3 : Int32) (x4 : Int32) (h : PH), rc5 x1 x2 x3 x4 h = some (r0, h0) → V X (QI X r0 h0) h 5 [some (.ref 103), some (.int x1), some (.int x2), some (.int x3), some (.int x4)] []) : ∀ (x1 : Int32) (x2 : Int32) (x4 : Int32) (s0 : Int32) (s1 : Int32) (h : PH), F_X12_bendsOf_b36 N rc5 x1 x2 x4 s0 s1 h = some (r0, h0) → V X (QI X r0 h0) h 36 [some (.ref 103), some (.int x1), some (.int x2), none, some (.int x4)] [.int s0, .int s1] := by
  intro x1 x2 x4 s0 s1 h hyp
  unfold F_X12_bendsOf_b36 at hyp
  refine V_iadd (pc := 36) C dX12_bendsOf_36 ?_
  obtain ⟨v1, ev1, hyp⟩ := ib_n hyp
  refine V_topI ev1 ?_
  refine V_istore_n (pc := 37) C dX12_bendsOf_37 (by decide) rfl ?_
  obtain ⟨v2, ev2, hyp⟩ := ib_n hyp
  refine V_iinc (pc := 38) C dX12_bendsOf_38 (v := v2) rfl (by rw [ev2]; rfl) (by decide) rfl ?_
  refine V_goto (pc := 41) C dX12_bendsOf_41 (tgt := 5) (by decide) ?_
  refine V_weak (lv' := [some (.ref 103), some (.int x1), some (.int x2), some (.int v1), some (.int v2)]) (lvle_s (lvle_s (lvle_s (lvle_s (lvle_s lvle_0))))) ?_
  exact hr5 x1 x2 v1 v2 h hyp
def F_X12_bendsOf_b5 (N : Nat) : Nat → Int32 → Int32 → Int32 → Int32 → PH → Option (Int32 × PH)
  | 0, _, _, _, _, _ => none
  | n + 1, x1, x2, x3, x4, h =>
    if (h.1 103 75) ≤ x4 then
      some (x3, h)
    else
      bI (F_X12_bends x4 x1 h) fun r2 h3 =>
      if r2 = 0 then
        F_X12_bendsOf_b36 N (F_X12_bendsOf_b5 N n) x1 x2 x4 (0 : Int32) x3 h3
      else
        bI (F_X12_trueOf x4 x2 h3) fun r5 h6 =>
        F_X12_bendsOf_b36 N (F_X12_bendsOf_b5 N n) x1 x2 x4 r5 x3 h6
set_option maxRecDepth 20000 in
set_option maxHeartbeats 4000000 in
theorem T_X12_bendsOf_b5 {X : CT} (C : CX X 154 cX12_bendsOf 5 RX12 (some .int) 1 22) {r0 : Int32} {h0 : PH} {N : Nat} : ∀ (n : Nat) (x1 : Int32) (x2 : Int32) (x3 : Int32) (x4 : Int32) (h : PH), F_X12_bendsOf_b5 N n x1 x2 x3 x4 h = some (r0, h0) → V X (QI X r0 h0) h 5 [some (.ref 103), some (.int x1), some (.int x2), some (.int x3), some (.int x4)] [] := by
  intro n
  induction n with
  | zero =>
    intro x1 x2 x3 x4 h hyp
    cases hyp
  | succ n ih =>
    intro x1 x2 x3 x4 h hyp
    unfold F_X12_bendsOf_b5 at hyp
    refine V_iload (pc := 5) C dX12_bendsOf_5 rfl ?_
    refine V_aload_n (pc := 7) C dX12_bendsOf_7 rfl ?_
    refine V_getI (pc := 8) C dX12_bendsOf_8 lf_X12_206 fk_103_75 ?_
    refine V_icmp_ge (pc := 11) C dX12_bendsOf_11 (tgt := 44) (by decide) (fun q1 => ?_) (fun q1 => ?_)
    · replace hyp := (if_pos q1).symm.trans hyp
      refine V_iload_n (pc := 44) C dX12_bendsOf_44 rfl ?_
      cases hyp
      exact V_iret C dX12_bendsOf_45
    · replace hyp := (if_neg q1).symm.trans hyp
      refine V_iload_n (pc := 14) C dX12_bendsOf_14 rfl ?_
      refine V_aload_n (pc := 15) C dX12_bendsOf_15 rfl ?_
      refine V_iload (pc := 16) C dX12_bendsOf_16 rfl ?_
      refine V_iload_n (pc := 18) C dX12_bendsOf_18 rfl ?_
      obtain ⟨r2, h3, eh3, hyp⟩ := bI_n hyp
      refine V_callI (pc := 19) C dX12_bendsOf_19 lm_X12_489 mk_X12_bends ok_103 rfl (M_X12_bends _ eh3) rfl pd_X12_bends (by decide) (by decide) (by decide) (As := [.int x4, .int x1]) (rest := [.int x3]) rfl (Nat.le_of_ble_eq_true rfl) ?_
      refine V_if_eq (pc := 22) C dX12_bendsOf_22 (tgt := 35) (by decide) (fun q4 => ?_) (fun q4 => ?_)
      · replace hyp := (if_pos q4).symm.trans hyp
        refine V_iconst (pc := 35) C dX12_bendsOf_35 (v := 0) (by decide) ?_
        refine V_weak (lv' := [some (.ref 103), some (.int x1), some (.int x2), none, some (.int x4)]) (lvle_s (lvle_s (lvle_s (lvle_n (lvle_s lvle_0))))) ?_
        exact (T_X12_bendsOf_b36 C ih) x1 x2 x4 (0 : Int32) x3 h3 hyp
      · replace hyp := (if_neg q4).symm.trans hyp
        refine V_aload_n (pc := 25) C dX12_bendsOf_25 rfl ?_
        refine V_iload (pc := 26) C dX12_bendsOf_26 rfl ?_
        refine V_iload_n (pc := 28) C dX12_bendsOf_28 rfl ?_
        obtain ⟨r5, h6, eh6, hyp⟩ := bI_n hyp
        refine V_callI (pc := 29) C dX12_bendsOf_29 lm_X12_492 mk_X12_trueOf ok_103 rfl (M_X12_trueOf _ eh6) rfl pd_X12_trueOf (by decide) (by decide) (by decide) (As := [.int x4, .int x2]) (rest := [.int x3]) rfl (Nat.le_of_ble_eq_true rfl) ?_
        refine V_goto (pc := 32) C dX12_bendsOf_32 (tgt := 36) (by decide) ?_
        refine V_weak (lv' := [some (.ref 103), some (.int x1), some (.int x2), none, some (.int x4)]) (lvle_s (lvle_s (lvle_s (lvle_n (lvle_s lvle_0))))) ?_
        exact (T_X12_bendsOf_b36 C ih) x1 x2 x4 r5 x3 h6 hyp
def F_X12_bendsOf (N : Nat) (a1 : Int32) (a2 : Int32) (h : PH) : Option (Int32 × PH) :=
  F_X12_bendsOf_b5 N N a1 a2 (0 : Int32) (0 : Int32) h
set_option maxRecDepth 20000 in
set_option maxHeartbeats 4000000 in
theorem M_X12_bendsOf (E : EV) {N : Nat} {a1 : Int32} {a2 : Int32} {r : Int32} {h h2 : PH} (hyp : F_X12_bendsOf N a1 a2 h = some (r, h2)) : MI E 154 yX12_bendsOf cX12_bendsOf 5 (some .int) 1 22 [.ref 103, .int a1, .int a2] h r h2 := by
  refine MI.of 2 (by decide) rfl (fun X e1 C => ?_)
  subst e1
  replace C : CX X 154 cX12_bendsOf 5 RX12 (some .int) 1 22 := C
  show V X _ h 0 [some (.ref 103), some (.int a1), some (.int a2), none, none] []
  unfold F_X12_bendsOf at hyp
  refine V_iconst (pc := 0) C dX12_bendsOf_0 (v := 0) (by decide) ?_
  refine V_istore_n (pc := 1) C dX12_bendsOf_1 (by decide) rfl ?_
  refine V_iconst (pc := 2) C dX12_bendsOf_2 (v := 0) (by decide) ?_
  refine V_istore (pc := 3) C dX12_bendsOf_3 (by decide) rfl ?_
  refine V_weak (lv' := [some (.ref 103), some (.int a1), some (.int a2), some (.int (0 : Int32)), some (.int (0 : Int32))]) (lvle_s (lvle_s (lvle_s (lvle_s (lvle_s lvle_0))))) ?_
  exact (T_X12_bendsOf_b5 C) N a1 a2 (0 : Int32) (0 : Int32) h hyp
theorem dX12_isPart_0 : decode cX12_isPart 0 = .ok (.iload_n 1, 1) := by decide +kernel
theorem dX12_isPart_1 : decode cX12_isPart 1 = .ok (.iconst 0, 1) := by decide +kernel
theorem dX12_isPart_2 : decode cX12_isPart 2 = .ok (.aload_n 0, 1) := by decide +kernel
theorem dX12_isPart_3 : decode cX12_isPart 3 = .ok (.getfield 7, 3) := by decide +kernel
theorem dX12_isPart_6 : decode cX12_isPart 6 = .ok (.iconst 2, 1) := by decide +kernel
theorem dX12_isPart_7 : decode cX12_isPart 7 = .ok (.isub, 1) := by decide +kernel
theorem dX12_isPart_8 : decode cX12_isPart 8 = .ok (.invokestatic 183, 3) := by decide +kernel
theorem dX12_isPart_11 : decode cX12_isPart 11 = .ok (.ireturn, 1) := by decide +kernel
def F_X12_isPart (a1 : Int32) (h : PH) : Option (Int32 × PH) :=
  bI (F_X12_within a1 (0 : Int32) ((h.1 103 1) - (2 : Int32)) h) fun r1 h2 =>
  if zb r1 = true then
  some (r1, h2)
  else none
set_option maxRecDepth 20000 in
set_option maxHeartbeats 4000000 in
theorem M_X12_isPart (E : EV) {a1 : Int32} {r : Int32} {h h2 : PH} (hyp : F_X12_isPart a1 h = some (r, h2)) : MI E 154 yX12_isPart cX12_isPart 2 (some .boolean) 1 22 [.ref 103, .int a1] h r h2 := by
  refine MI.of 0 (by decide) rfl (fun X e1 C => ?_)
  subst e1
  replace C : CX X 154 cX12_isPart 2 RX12 (some .boolean) 1 22 := C
  show V X _ h 0 [some (.ref 103), some (.int a1)] []
  unfold F_X12_isPart at hyp
  refine V_iload_n (pc := 0) C dX12_isPart_0 rfl ?_
  refine V_iconst (pc := 1) C dX12_isPart_1 (v := 0) (by decide) ?_
  refine V_aload_n (pc := 2) C dX12_isPart_2 rfl ?_
  refine V_getI (pc := 3) C dX12_isPart_3 lf_X12_7 fk_103_1 ?_
  refine V_iconst (pc := 6) C dX12_isPart_6 (v := 2) (by decide) ?_
  refine V_isub (pc := 7) C dX12_isPart_7 ?_
  obtain ⟨r1, h2, eh2, hyp⟩ := bI_n hyp
  refine V_statI (pc := 8) C dX12_isPart_8 lm_X12_183 ms_X12_within (M_X12_within _ eh2) rfl pd_X12_within (by decide) (by decide) (by decide) (As := [.int a1, .int (0 : Int32), .int ((h.1 103 1) - (2 : Int32))]) (rest := []) rfl (Nat.le_of_ble_eq_true rfl) ?_
  obtain ⟨g3, hyp⟩ := gd_n hyp
  cases hyp
  exact V_zret C dX12_isPart_11 (zb_n g3).1
theorem dX12_rope_0 : decode cX12_rope 0 = .ok (.aload_n 0, 1) := by decide +kernel
theorem dX12_rope_1 : decode cX12_rope 1 = .ok (.iconst 0, 1) := by decide +kernel
theorem dX12_rope_2 : decode cX12_rope 2 = .ok (.putfield 180, 3) := by decide +kernel
theorem dX12_rope_5 : decode cX12_rope 5 = .ok (.aload_n 0, 1) := by decide +kernel
theorem dX12_rope_6 : decode cX12_rope 6 = .ok (.iload_n 1, 1) := by decide +kernel
theorem dX12_rope_7 : decode cX12_rope 7 = .ok (.invokevirtual 495, 3) := by decide +kernel
theorem dX12_rope_10 : decode cX12_rope 10 = .ok (.ifCond .eq 12, 3) := by decide +kernel
theorem dX12_rope_13 : decode cX12_rope 13 = .ok (.iload_n 2, 1) := by decide +kernel
theorem dX12_rope_14 : decode cX12_rope 14 = .ok (.iconst 0, 1) := by decide +kernel
theorem dX12_rope_15 : decode cX12_rope 15 = .ok (.iconst 2, 1) := by decide +kernel
theorem dX12_rope_16 : decode cX12_rope 16 = .ok (.invokestatic 183, 3) := by decide +kernel
theorem dX12_rope_19 : decode cX12_rope 19 = .ok (.ifCond .ne 5, 3) := by decide +kernel
theorem dX12_rope_22 : decode cX12_rope 22 = .ok (.iconst (-1), 1) := by decide +kernel
theorem dX12_rope_23 : decode cX12_rope 23 = .ok (.ireturn, 1) := by decide +kernel
theorem dX12_rope_24 : decode cX12_rope 24 = .ok (.aload_n 0, 1) := by decide +kernel
theorem dX12_rope_25 : decode cX12_rope 25 = .ok (.iload_n 1, 1) := by decide +kernel
theorem dX12_rope_26 : decode cX12_rope 26 = .ok (.iconst (-1), 1) := by decide +kernel
theorem dX12_rope_27 : decode cX12_rope 27 = .ok (.invokevirtual 498, 3) := by decide +kernel
theorem dX12_rope_30 : decode cX12_rope 30 = .ok (.istore_n 3, 1) := by decide +kernel
theorem dX12_rope_31 : decode cX12_rope 31 = .ok (.aload_n 0, 1) := by decide +kernel
theorem dX12_rope_32 : decode cX12_rope 32 = .ok (.iload_n 1, 1) := by decide +kernel
theorem dX12_rope_33 : decode cX12_rope 33 = .ok (.iconst 1, 1) := by decide +kernel
theorem dX12_rope_34 : decode cX12_rope 34 = .ok (.invokevirtual 498, 3) := by decide +kernel
theorem dX12_rope_37 : decode cX12_rope 37 = .ok (.istore 4, 2) := by decide +kernel
theorem dX12_rope_39 : decode cX12_rope 39 = .ok (.iload_n 2, 1) := by decide +kernel
theorem dX12_rope_40 : decode cX12_rope 40 = .ok (.ifCond .ne 7, 3) := by decide +kernel
theorem dX12_rope_43 : decode cX12_rope 43 = .ok (.iload_n 3, 1) := by decide +kernel
theorem dX12_rope_44 : decode cX12_rope 44 = .ok (.goto 39, 3) := by decide +kernel
theorem dX12_rope_47 : decode cX12_rope 47 = .ok (.iload_n 2, 1) := by decide +kernel
theorem dX12_rope_48 : decode cX12_rope 48 = .ok (.iconst 1, 1) := by decide +kernel
theorem dX12_rope_49 : decode cX12_rope 49 = .ok (.if_icmp .ne 8, 3) := by decide +kernel
theorem dX12_rope_52 : decode cX12_rope 52 = .ok (.iload 4, 2) := by decide +kernel
theorem dX12_rope_54 : decode cX12_rope 54 = .ok (.goto 29, 3) := by decide +kernel
theorem dX12_rope_57 : decode cX12_rope 57 = .ok (.iload_n 3, 1) := by decide +kernel
theorem dX12_rope_58 : decode cX12_rope 58 = .ok (.aload_n 0, 1) := by decide +kernel
theorem dX12_rope_59 : decode cX12_rope 59 = .ok (.getfield 174, 3) := by decide +kernel
theorem dX12_rope_62 : decode cX12_rope 62 = .ok (.if_icmp .lt 7, 3) := by decide +kernel
theorem dX12_rope_65 : decode cX12_rope 65 = .ok (.iconst 2, 1) := by decide +kernel
theorem dX12_rope_66 : decode cX12_rope 66 = .ok (.goto 17, 3) := by decide +kernel
theorem dX12_rope_69 : decode cX12_rope 69 = .ok (.iload 4, 2) := by decide +kernel
theorem dX12_rope_71 : decode cX12_rope 71 = .ok (.aload_n 0, 1) := by decide +kernel
theorem dX12_rope_72 : decode cX12_rope 72 = .ok (.getfield 174, 3) := by decide +kernel
theorem dX12_rope_75 : decode cX12_rope 75 = .ok (.if_icmp .lt 7, 3) := by decide +kernel
theorem dX12_rope_78 : decode cX12_rope 78 = .ok (.iconst 1, 1) := by decide +kernel
theorem dX12_rope_79 : decode cX12_rope 79 = .ok (.goto 4, 3) := by decide +kernel
theorem dX12_rope_82 : decode cX12_rope 82 = .ok (.iconst 0, 1) := by decide +kernel
theorem dX12_rope_83 : decode cX12_rope 83 = .ok (.ireturn, 1) := by decide +kernel
def F_X12_rope (N : Nat) (a1 : Int32) (a2 : Int32) (h : PH) : Option (Int32 × PH) :=
  hb (hs h 103 0 (0 : Int32)) fun h1 =>
  bI (F_X12_isPart a1 h1) fun r2 h3 =>
  if r2 = 0 then
    some ((-1 : Int32), h3)
  else
    bI (F_X12_within a2 (0 : Int32) (2 : Int32) h3) fun r5 h6 =>
    if r5 = 0 then
      some ((-1 : Int32), h6)
    else
      bI (F_X12_bendsOf N a1 (-1 : Int32) h6) fun r8 h9 =>
      bI (F_X12_bendsOf N a1 (1 : Int32) h9) fun r10 h11 =>
      if a2 = 0 then
        some (r8, h11)
      else
        if a2 = (1 : Int32) then
          some (r10, h11)
        else
          if r8 < (h11.1 103 80) then
            if r10 < (h11.1 103 80) then
              some ((0 : Int32), h11)
            else
              some ((1 : Int32), h11)
          else
            some ((2 : Int32), h11)
set_option maxRecDepth 20000 in
set_option maxHeartbeats 4000000 in
theorem M_X12_rope (E : EV) {N : Nat} {a1 : Int32} {a2 : Int32} {r : Int32} {h h2 : PH} (hyp : F_X12_rope N a1 a2 h = some (r, h2)) : MI E 154 yX12_rope cX12_rope 5 (some .int) 2 46 [.ref 103, .int a1, .int a2] h r h2 := by
  refine MI.of 2 (by decide) rfl (fun X e1 C => ?_)
  subst e1
  replace C : CX X 154 cX12_rope 5 RX12 (some .int) 2 46 := C
  show V X _ h 0 [some (.ref 103), some (.int a1), some (.int a2), none, none] []
  unfold F_X12_rope at hyp
  refine V_aload_n (pc := 0) C dX12_rope_0 rfl ?_
  refine V_iconst (pc := 1) C dX12_rope_1 (v := 0) (by decide) ?_
  obtain ⟨h1, eh1, hyp⟩ := hb_n hyp
  refine V_putI (pc := 2) C dX12_rope_2 lf_X12_180 fk_103_0 rfl rfl eh1 ?_
  refine V_aload_n (pc := 5) C dX12_rope_5 rfl ?_
  refine V_iload_n (pc := 6) C dX12_rope_6 rfl ?_
  obtain ⟨r2, h3, eh3, hyp⟩ := bI_n hyp
  refine V_callI (pc := 7) C dX12_rope_7 lm_X12_495 mk_X12_isPart ok_103 rfl (M_X12_isPart _ eh3) rfl pd_X12_isPart (by decide) (by decide) (by decide) (As := [.int a1]) (rest := []) rfl (Nat.le_of_ble_eq_true rfl) ?_
  refine V_if_eq (pc := 10) C dX12_rope_10 (tgt := 22) (by decide) (fun q4 => ?_) (fun q4 => ?_)
  · replace hyp := (if_pos q4).symm.trans hyp
    refine V_iconst (pc := 22) C dX12_rope_22 (v := -1) (by decide) ?_
    cases hyp
    exact V_iret C dX12_rope_23
  · replace hyp := (if_neg q4).symm.trans hyp
    refine V_iload_n (pc := 13) C dX12_rope_13 rfl ?_
    refine V_iconst (pc := 14) C dX12_rope_14 (v := 0) (by decide) ?_
    refine V_iconst (pc := 15) C dX12_rope_15 (v := 2) (by decide) ?_
    obtain ⟨r5, h6, eh6, hyp⟩ := bI_n hyp
    refine V_statI (pc := 16) C dX12_rope_16 lm_X12_183 ms_X12_within (M_X12_within _ eh6) rfl pd_X12_within (by decide) (by decide) (by decide) (As := [.int a2, .int (0 : Int32), .int (2 : Int32)]) (rest := []) rfl (Nat.le_of_ble_eq_true rfl) ?_
    refine V_if_ne (pc := 19) C dX12_rope_19 (tgt := 24) (by decide) (fun q7 => ?_) (fun q7 => ?_)
    · replace hyp := (if_neg q7).symm.trans hyp
      refine V_aload_n (pc := 24) C dX12_rope_24 rfl ?_
      refine V_iload_n (pc := 25) C dX12_rope_25 rfl ?_
      refine V_iconst (pc := 26) C dX12_rope_26 (v := -1) (by decide) ?_
      obtain ⟨r8, h9, eh9, hyp⟩ := bI_n hyp
      refine V_callI (pc := 27) C dX12_rope_27 lm_X12_498 mk_X12_bendsOf ok_103 rfl (M_X12_bendsOf _ eh9) rfl pd_X12_bendsOf (by decide) (by decide) (by decide) (As := [.int a1, .int (-1 : Int32)]) (rest := []) rfl (Nat.le_of_ble_eq_true rfl) ?_
      refine V_istore_n (pc := 30) C dX12_rope_30 (by decide) rfl ?_
      refine V_aload_n (pc := 31) C dX12_rope_31 rfl ?_
      refine V_iload_n (pc := 32) C dX12_rope_32 rfl ?_
      refine V_iconst (pc := 33) C dX12_rope_33 (v := 1) (by decide) ?_
      obtain ⟨r10, h11, eh11, hyp⟩ := bI_n hyp
      refine V_callI (pc := 34) C dX12_rope_34 lm_X12_498 mk_X12_bendsOf ok_103 rfl (M_X12_bendsOf _ eh11) rfl pd_X12_bendsOf (by decide) (by decide) (by decide) (As := [.int a1, .int (1 : Int32)]) (rest := []) rfl (Nat.le_of_ble_eq_true rfl) ?_
      refine V_istore (pc := 37) C dX12_rope_37 (by decide) rfl ?_
      refine V_iload_n (pc := 39) C dX12_rope_39 rfl ?_
      refine V_if_ne (pc := 40) C dX12_rope_40 (tgt := 47) (by decide) (fun q12 => ?_) (fun q12 => ?_)
      · replace hyp := (if_neg q12).symm.trans hyp
        refine V_iload_n (pc := 47) C dX12_rope_47 rfl ?_
        refine V_iconst (pc := 48) C dX12_rope_48 (v := 1) (by decide) ?_
        refine V_icmp_ne (pc := 49) C dX12_rope_49 (tgt := 57) (by decide) (fun q13 => ?_) (fun q13 => ?_)
        · replace hyp := (if_neg q13).symm.trans hyp
          refine V_iload_n (pc := 57) C dX12_rope_57 rfl ?_
          refine V_aload_n (pc := 58) C dX12_rope_58 rfl ?_
          refine V_getI (pc := 59) C dX12_rope_59 lf_X12_174 fk_103_80 ?_
          refine V_icmp_lt (pc := 62) C dX12_rope_62 (tgt := 69) (by decide) (fun q14 => ?_) (fun q14 => ?_)
          · replace hyp := (if_pos q14).symm.trans hyp
            refine V_iload (pc := 69) C dX12_rope_69 rfl ?_
            refine V_aload_n (pc := 71) C dX12_rope_71 rfl ?_
            refine V_getI (pc := 72) C dX12_rope_72 lf_X12_174 fk_103_80 ?_
            refine V_icmp_lt (pc := 75) C dX12_rope_75 (tgt := 82) (by decide) (fun q15 => ?_) (fun q15 => ?_)
            · replace hyp := (if_pos q15).symm.trans hyp
              refine V_iconst (pc := 82) C dX12_rope_82 (v := 0) (by decide) ?_
              cases hyp
              exact V_iret C dX12_rope_83
            · replace hyp := (if_neg q15).symm.trans hyp
              refine V_iconst (pc := 78) C dX12_rope_78 (v := 1) (by decide) ?_
              refine V_goto (pc := 79) C dX12_rope_79 (tgt := 83) (by decide) ?_
              cases hyp
              exact V_iret C dX12_rope_83
          · replace hyp := (if_neg q14).symm.trans hyp
            refine V_iconst (pc := 65) C dX12_rope_65 (v := 2) (by decide) ?_
            refine V_goto (pc := 66) C dX12_rope_66 (tgt := 83) (by decide) ?_
            cases hyp
            exact V_iret C dX12_rope_83
        · replace hyp := (if_pos q13).symm.trans hyp
          refine V_iload (pc := 52) C dX12_rope_52 rfl ?_
          refine V_goto (pc := 54) C dX12_rope_54 (tgt := 83) (by decide) ?_
          cases hyp
          exact V_iret C dX12_rope_83
      · replace hyp := (if_pos q12).symm.trans hyp
        refine V_iload_n (pc := 43) C dX12_rope_43 rfl ?_
        refine V_goto (pc := 44) C dX12_rope_44 (tgt := 83) (by decide) ?_
        cases hyp
        exact V_iret C dX12_rope_83
    · replace hyp := (if_pos q7).symm.trans hyp
      refine V_iconst (pc := 22) C dX12_rope_22 (v := -1) (by decide) ?_
      cases hyp
      exact V_iret C dX12_rope_23
theorem dX12_first_0 : decode cX12_first 0 = .ok (.aload_n 0, 1) := by decide +kernel
theorem dX12_first_1 : decode cX12_first 1 = .ok (.iconst 0, 1) := by decide +kernel
theorem dX12_first_2 : decode cX12_first 2 = .ok (.putfield 180, 3) := by decide +kernel
theorem dX12_first_5 : decode cX12_first 5 = .ok (.iload_n 1, 1) := by decide +kernel
theorem dX12_first_6 : decode cX12_first 6 = .ok (.iconst 0, 1) := by decide +kernel
theorem dX12_first_7 : decode cX12_first 7 = .ok (.iconst 1, 1) := by decide +kernel
theorem dX12_first_8 : decode cX12_first 8 = .ok (.invokestatic 183, 3) := by decide +kernel
theorem dX12_first_11 : decode cX12_first 11 = .ok (.ifCond .ne 5, 3) := by decide +kernel
theorem dX12_first_14 : decode cX12_first 14 = .ok (.iconst (-1), 1) := by decide +kernel
theorem dX12_first_15 : decode cX12_first 15 = .ok (.ireturn, 1) := by decide +kernel
theorem dX12_first_16 : decode cX12_first 16 = .ok (.iload_n 1, 1) := by decide +kernel
theorem dX12_first_17 : decode cX12_first 17 = .ok (.ifCond .ne 7, 3) := by decide +kernel
theorem dX12_first_20 : decode cX12_first 20 = .ok (.iconst 1, 1) := by decide +kernel
theorem dX12_first_21 : decode cX12_first 21 = .ok (.goto 4, 3) := by decide +kernel
theorem dX12_first_24 : decode cX12_first 24 = .ok (.iconst (-1), 1) := by decide +kernel
theorem dX12_first_25 : decode cX12_first 25 = .ok (.istore_n 2, 1) := by decide +kernel
theorem dX12_first_26 : decode cX12_first 26 = .ok (.iconst 0, 1) := by decide +kernel
theorem dX12_first_27 : decode cX12_first 27 = .ok (.istore_n 3, 1) := by decide +kernel
theorem dX12_first_28 : decode cX12_first 28 = .ok (.iconst 0, 1) := by decide +kernel
theorem dX12_first_29 : decode cX12_first 29 = .ok (.istore 4, 2) := by decide +kernel
theorem dX12_first_31 : decode cX12_first 31 = .ok (.iload 4, 2) := by decide +kernel
theorem dX12_first_33 : decode cX12_first 33 = .ok (.aload_n 0, 1) := by decide +kernel
theorem dX12_first_34 : decode cX12_first 34 = .ok (.getfield 7, 3) := by decide +kernel
theorem dX12_first_37 : decode cX12_first 37 = .ok (.iconst 1, 1) := by decide +kernel
theorem dX12_first_38 : decode cX12_first 38 = .ok (.isub, 1) := by decide +kernel
theorem dX12_first_39 : decode cX12_first 39 = .ok (.if_icmp .ge 155, 3) := by decide +kernel
theorem dX12_first_42 : decode cX12_first 42 = .ok (.iconst 1, 1) := by decide +kernel
theorem dX12_first_43 : decode cX12_first 43 = .ok (.istore 5, 2) := by decide +kernel
theorem dX12_first_45 : decode cX12_first 45 = .ok (.iconst 0, 1) := by decide +kernel
theorem dX12_first_46 : decode cX12_first 46 = .ok (.istore 6, 2) := by decide +kernel
theorem dX12_first_48 : decode cX12_first 48 = .ok (.iload 6, 2) := by decide +kernel
theorem dX12_first_50 : decode cX12_first 50 = .ok (.aload_n 0, 1) := by decide +kernel
theorem dX12_first_51 : decode cX12_first 51 = .ok (.getfield 7, 3) := by decide +kernel
theorem dX12_first_54 : decode cX12_first 54 = .ok (.iconst 1, 1) := by decide +kernel
theorem dX12_first_55 : decode cX12_first 55 = .ok (.isub, 1) := by decide +kernel
theorem dX12_first_56 : decode cX12_first 56 = .ok (.if_icmp .ge 116, 3) := by decide +kernel
theorem dX12_first_59 : decode cX12_first 59 = .ok (.iconst 0, 1) := by decide +kernel
theorem dX12_first_60 : decode cX12_first 60 = .ok (.istore 7, 2) := by decide +kernel
theorem dX12_first_62 : decode cX12_first 62 = .ok (.iconst 0, 1) := by decide +kernel
theorem dX12_first_63 : decode cX12_first 63 = .ok (.istore 8, 2) := by decide +kernel
theorem dX12_first_65 : decode cX12_first 65 = .ok (.iload 8, 2) := by decide +kernel
theorem dX12_first_67 : decode cX12_first 67 = .ok (.aload_n 0, 1) := by decide +kernel
theorem dX12_first_68 : decode cX12_first 68 = .ok (.getfield 206, 3) := by decide +kernel
theorem dX12_first_71 : decode cX12_first 71 = .ok (.if_icmp .ge 78, 3) := by decide +kernel
theorem dX12_first_74 : decode cX12_first 74 = .ok (.aload_n 0, 1) := by decide +kernel
theorem dX12_first_75 : decode cX12_first 75 = .ok (.iload 8, 2) := by decide +kernel
theorem dX12_first_77 : decode cX12_first 77 = .ok (.iload 4, 2) := by decide +kernel
theorem dX12_first_79 : decode cX12_first 79 = .ok (.invokevirtual 489, 3) := by decide +kernel
theorem dX12_first_82 : decode cX12_first 82 = .ok (.ifCond .eq 26, 3) := by decide +kernel
theorem dX12_first_85 : decode cX12_first 85 = .ok (.aload_n 0, 1) := by decide +kernel
theorem dX12_first_86 : decode cX12_first 86 = .ok (.iload 8, 2) := by decide +kernel
theorem dX12_first_88 : decode cX12_first 88 = .ok (.iload 6, 2) := by decide +kernel
theorem dX12_first_90 : decode cX12_first 90 = .ok (.invokevirtual 489, 3) := by decide +kernel
theorem dX12_first_93 : decode cX12_first 93 = .ok (.ifCond .ne 15, 3) := by decide +kernel
theorem dX12_first_96 : decode cX12_first 96 = .ok (.iload 7, 2) := by decide +kernel
theorem dX12_first_98 : decode cX12_first 98 = .ok (.aload_n 0, 1) := by decide +kernel
theorem dX12_first_99 : decode cX12_first 99 = .ok (.iload 8, 2) := by decide +kernel
theorem dX12_first_101 : decode cX12_first 101 = .ok (.iload_n 2, 1) := by decide +kernel
theorem dX12_first_102 : decode cX12_first 102 = .ok (.invokevirtual 492, 3) := by decide +kernel
theorem dX12_first_105 : decode cX12_first 105 = .ok (.iadd, 1) := by decide +kernel
theorem dX12_first_106 : decode cX12_first 106 = .ok (.istore 7, 2) := by decide +kernel
theorem dX12_first_108 : decode cX12_first 108 = .ok (.aload_n 0, 1) := by decide +kernel
theorem dX12_first_109 : decode cX12_first 109 = .ok (.iload 8, 2) := by decide +kernel
theorem dX12_first_111 : decode cX12_first 111 = .ok (.iload 6, 2) := by decide +kernel
theorem dX12_first_113 : decode cX12_first 113 = .ok (.invokevirtual 489, 3) := by decide +kernel
theorem dX12_first_116 : decode cX12_first 116 = .ok (.ifCond .eq 27, 3) := by decide +kernel
theorem dX12_first_119 : decode cX12_first 119 = .ok (.aload_n 0, 1) := by decide +kernel
theorem dX12_first_120 : decode cX12_first 120 = .ok (.iload 8, 2) := by decide +kernel
theorem dX12_first_122 : decode cX12_first 122 = .ok (.iload 4, 2) := by decide +kernel
theorem dX12_first_124 : decode cX12_first 124 = .ok (.invokevirtual 489, 3) := by decide +kernel
theorem dX12_first_127 : decode cX12_first 127 = .ok (.ifCond .ne 16, 3) := by decide +kernel
theorem dX12_first_130 : decode cX12_first 130 = .ok (.iload 7, 2) := by decide +kernel
theorem dX12_first_132 : decode cX12_first 132 = .ok (.aload_n 0, 1) := by decide +kernel
theorem dX12_first_133 : decode cX12_first 133 = .ok (.iload 8, 2) := by decide +kernel
theorem dX12_first_135 : decode cX12_first 135 = .ok (.iload_n 2, 1) := by decide +kernel
theorem dX12_first_136 : decode cX12_first 136 = .ok (.ineg, 1) := by decide +kernel
theorem dX12_first_137 : decode cX12_first 137 = .ok (.invokevirtual 492, 3) := by decide +kernel
theorem dX12_first_140 : decode cX12_first 140 = .ok (.isub, 1) := by decide +kernel
theorem dX12_first_141 : decode cX12_first 141 = .ok (.istore 7, 2) := by decide +kernel
theorem dX12_first_143 : decode cX12_first 143 = .ok (.iinc 8 1, 3) := by decide +kernel
theorem dX12_first_146 : decode cX12_first 146 = .ok (.goto (-81), 3) := by decide +kernel
theorem dX12_first_149 : decode cX12_first 149 = .ok (.iload 5, 2) := by decide +kernel
theorem dX12_first_151 : decode cX12_first 151 = .ok (.ifCond .eq 12, 3) := by decide +kernel
theorem dX12_first_154 : decode cX12_first 154 = .ok (.iload 7, 2) := by decide +kernel
theorem dX12_first_156 : decode cX12_first 156 = .ok (.ifCond .lt 7, 3) := by decide +kernel
theorem dX12_first_159 : decode cX12_first 159 = .ok (.iconst 1, 1) := by decide +kernel
theorem dX12_first_160 : decode cX12_first 160 = .ok (.goto 4, 3) := by decide +kernel
theorem dX12_first_163 : decode cX12_first 163 = .ok (.iconst 0, 1) := by decide +kernel
theorem dX12_first_164 : decode cX12_first 164 = .ok (.istore 5, 2) := by decide +kernel
theorem dX12_first_166 : decode cX12_first 166 = .ok (.iinc 6 1, 3) := by decide +kernel
theorem dX12_first_169 : decode cX12_first 169 = .ok (.goto (-121), 3) := by decide +kernel
theorem dX12_first_172 : decode cX12_first 172 = .ok (.iload_n 3, 1) := by decide +kernel
theorem dX12_first_173 : decode cX12_first 173 = .ok (.iload 5, 2) := by decide +kernel
theorem dX12_first_175 : decode cX12_first 175 = .ok (.ifCond .eq 10, 3) := by decide +kernel
theorem dX12_first_178 : decode cX12_first 178 = .ok (.iconst 1, 1) := by decide +kernel
theorem dX12_first_179 : decode cX12_first 179 = .ok (.iload 4, 2) := by decide +kernel
theorem dX12_first_181 : decode cX12_first 181 = .ok (.ishl, 1) := by decide +kernel
theorem dX12_first_182 : decode cX12_first 182 = .ok (.goto 4, 3) := by decide +kernel
theorem dX12_first_185 : decode cX12_first 185 = .ok (.iconst 0, 1) := by decide +kernel
theorem dX12_first_186 : decode cX12_first 186 = .ok (.ior, 1) := by decide +kernel
theorem dX12_first_187 : decode cX12_first 187 = .ok (.istore_n 3, 1) := by decide +kernel
theorem dX12_first_188 : decode cX12_first 188 = .ok (.iinc 4 1, 3) := by decide +kernel
theorem dX12_first_191 : decode cX12_first 191 = .ok (.goto (-160), 3) := by decide +kernel
theorem dX12_first_194 : decode cX12_first 194 = .ok (.iload_n 3, 1) := by decide +kernel
theorem dX12_first_195 : decode cX12_first 195 = .ok (.ireturn, 1) := by decide +kernel
def F_X12_first_b143 (N : Nat) (rc31 : Int32 → Int32 → Int32 → PH → Option (Int32 × PH)) (rc48 : Int32 → Int32 → Int32 → Int32 → Int32 → PH → Option (Int32 × PH)) (rc65 : Int32 → Int32 → Int32 → Int32 → Int32 → Int32 → Int32 → PH → Option (Int32 × PH)) (x2 : Int32) (x3 : Int32) (x4 : Int32) (x5 : Int32) (x6 : Int32) (x7 : Int32) (x8 : Int32) (h : PH) : Option (Int32 × PH) :=
  ib (x8 + (1 : Int32)) fun v1 =>
  rc65 x2 x3 x4 x5 x6 x7 v1 h
set_option maxRecDepth 20000 in
set_option maxHeartbeats 4000000 in
theorem T_X12_first_b143 {X : CT} (C : CX X 154 cX12_first 9 RX12 (some .int) 1 22) {r0 : Int32} {h0 : PH} {N : Nat} {rc31 : Int32 → Int32 → Int32 → PH → Option (Int32 × PH)} {rc48 : Int32 → Int32 → Int32 → Int32 → Int32 → PH → Option (Int32 × PH)} {rc65 : Int32 → Int32 → Int32 → Int32 → Int32 → Int32 → Int32 → PH → Option (Int32 × PH)} (hr31 : ∀ (x2 : Int32) (x3 : Int32) (x4 : Int32) (h : PH), rc31 x2 x3 x4 h = some (r0, h0) → V X (QI X r0 h0) h 31 [some (.ref 103), none, some (.int x2), some (.int x3), some (.int x4), none, none, none, none] []) (hr48 : ∀ (x2 : Int32) (x3 : Int32) (x4 : Int32) (x5 : Int32) (x6 : Int32) (h : PH), rc48 x2 x3 x4 x5 x6 h = some (r0, h0) → V X (QI X r0 h0) h 48 [some (.ref 103), none, some (.int x2), some (.int x3), some (.int x4), some (.int x5), some (.int x6), none, none] []) (hr65 : ∀ (x2 : Int32) (x3 : Int32) (x4 : Int32) (x5 : Int32) (x6 : Int32) (x7 : Int32) (x8 : Int32) (h : PH), rc65 x2 x3 x4 x5 x6 x7 x8 h = some (r0, h0) → V X (QI X r0 h0) h 65 [some (.ref 103), none, some (.int x2), some (.int x3), some (.int x4), some (.int x5), some (.int x6), some (.int x7), some (.int x8)] []) : ∀ (x2 : Int32) (x3 : Int32) (x4 : Int32) (x5 : Int32) (x6 : Int32) (x7 : Int32) (x8 : Int32) (h : PH), F_X12_first_b143 N rc31 rc48 rc65 x2 x3 x4 x5 x6 x7 x8 h = some (r0, h0) → V X (QI X r0 h0) h 143 [some (.ref 103), none, some (.int x2), some (.int x3), some (.int x4), some (.int x5), some (.int x6), some (.int x7), some (.int x8)] [] := by
  intro x2 x3 x4 x5 x6 x7 x8 h hyp
  unfold F_X12_first_b143 at hyp
  obtain ⟨v1, ev1, hyp⟩ := ib_n hyp
  refine V_iinc (pc := 143) C dX12_first_143 (v := v1) rfl (by rw [ev1]; rfl) (by decide) rfl ?_
  refine V_goto (pc := 146) C dX12_first_146 (tgt := 65) (by decide) ?_
  refine V_weak (lv' := [some (.ref 103), none, some (.int x2), some (.int x3), some (.int x4), some (.int x5), some (.int x6), some (.int x7), some (.int v1)]) (lvle_s (lvle_n (lvle_s (lvle_s (lvle_s (lvle_s (lvle_s (lvle_s (lvle_s lvle_0))))))))) ?_
  exact hr65 x2 x3 x4 x5 x6 x7 v1 h hyp
def F_X12_first_b108 (N : Nat) (rc31 : Int32 → Int32 → Int32 → PH → Option (Int32 × PH)) (rc48 : Int32 → Int32 → Int32 → Int32 → Int32 → PH → Option (Int32 × PH)) (rc65 : Int32 → Int32 → Int32 → Int32 → Int32 → Int32 → Int32 → PH → Option (Int32 × PH)) (x2 : Int32) (x3 : Int32) (x4 : Int32) (x5 : Int32) (x6 : Int32) (x7 : Int32) (x8 : Int32) (h : PH) : Option (Int32 × PH) :=
  bI (F_X12_bends x8 x6 h) fun r1 h2 =>
  if r1 = 0 then
    F_X12_first_b143 N rc31 rc48 rc65 x2 x3 x4 x5 x6 x7 x8 h2
  else
    bI (F_X12_bends x8 x4 h2) fun r4 h5 =>
    if r4 = 0 then
      bI (F_X12_trueOf x8 (-x2) h5) fun r7 h8 =>
      ib (x7 - r7) fun v9 =>
      F_X12_first_b143 N rc31 rc48 rc65 x2 x3 x4 x5 x6 v9 x8 h8
    else
      F_X12_first_b143 N rc31 rc48 rc65 x2 x3 x4 x5 x6 x7 x8 h5
set_option maxRecDepth 20000 in
set_option maxHeartbeats 4000000 in
theorem T_X12_first_b108 {X : CT} (C : CX X 154 cX12_first 9 RX12 (some .int) 1 22) {r0 : Int32} {h0 : PH} {N : Nat} {rc31 : Int32 → Int32 → Int32 → PH → Option (Int32 × PH)} {rc48 : Int32 → Int32 → Int32 → Int32 → Int32 → PH → Option (Int32 × PH)} {rc65 : Int32 → Int32 → Int32 → Int32 → Int32 → Int32 → Int32 → PH → Option (Int32 × PH)} (hr31 : ∀ (x2 : Int32) (x3 : Int32) (x4 : Int32) (h : PH), rc31 x2 x3 x4 h = some (r0, h0) → V X (QI X r0 h0) h 31 [some (.ref 103), none, some (.int x2), some (.int x3), some (.int x4), none, none, none, none] []) (hr48 : ∀ (x2 : Int32) (x3 : Int32) (x4 : Int32) (x5 : Int32) (x6 : Int32) (h : PH), rc48 x2 x3 x4 x5 x6 h = some (r0, h0) → V X (QI X r0 h0) h 48 [some (.ref 103), none, some (.int x2), some (.int x3), some (.int x4), some (.int x5), some (.int x6), none, none] []) (hr65 : ∀ (x2 : Int32) (x3 : Int32) (x4 : Int32) (x5 : Int32) (x6 : Int32) (x7 : Int32) (x8 : Int32) (h : PH), rc65 x2 x3 x4 x5 x6 x7 x8 h = some (r0, h0) → V X (QI X r0 h0) h 65 [some (.ref 103), none, some (.int x2), some (.int x3), some (.int x4), some (.int x5), some (.int x6), some (.int x7), some (.int x8)] []) : ∀ (x2 : Int32) (x3 : Int32) (x4 : Int32) (x5 : Int32) (x6 : Int32) (x7 : Int32) (x8 : Int32) (h : PH), F_X12_first_b108 N rc31 rc48 rc65 x2 x3 x4 x5 x6 x7 x8 h = some (r0, h0) → V X (QI X r0 h0) h 108 [some (.ref 103), none, some (.int x2), some (.int x3), some (.int x4), some (.int x5), some (.int x6), some (.int x7), some (.int x8)] [] := by
  intro x2 x3 x4 x5 x6 x7 x8 h hyp
  unfold F_X12_first_b108 at hyp
  refine V_aload_n (pc := 108) C dX12_first_108 rfl ?_
  refine V_iload (pc := 109) C dX12_first_109 rfl ?_
  refine V_iload (pc := 111) C dX12_first_111 rfl ?_
  obtain ⟨r1, h2, eh2, hyp⟩ := bI_n hyp
  refine V_callI (pc := 113) C dX12_first_113 lm_X12_489 mk_X12_bends ok_103 rfl (M_X12_bends _ eh2) rfl pd_X12_bends (by decide) (by decide) (by decide) (As := [.int x8, .int x6]) (rest := []) rfl (Nat.le_of_ble_eq_true rfl) ?_
  refine V_if_eq (pc := 116) C dX12_first_116 (tgt := 143) (by decide) (fun q3 => ?_) (fun q3 => ?_)
  · replace hyp := (if_pos q3).symm.trans hyp
    refine V_weak (lv' := [some (.ref 103), none, some (.int x2), some (.int x3), some (.int x4), some (.int x5), some (.int x6), some (.int x7), some (.int x8)]) (lvle_s (lvle_n (lvle_s (lvle_s (lvle_s (lvle_s (lvle_s (lvle_s (lvle_s lvle_0))))))))) ?_
    exact (T_X12_first_b143 C hr31 hr48 hr65) x2 x3 x4 x5 x6 x7 x8 h2 hyp
  · replace hyp := (if_neg q3).symm.trans hyp
    refine V_aload_n (pc := 119) C dX12_first_119 rfl ?_
    refine V_iload (pc := 120) C dX12_first_120 rfl ?_
    refine V_iload (pc := 122) C dX12_first_122 rfl ?_
    obtain ⟨r4, h5, eh5, hyp⟩ := bI_n hyp
    refine V_callI (pc := 124) C dX12_first_124 lm_X12_489 mk_X12_bends ok_103 rfl (M_X12_bends _ eh5) rfl pd_X12_bends (by decide) (by decide) (by decide) (As := [.int x8, .int x4]) (rest := []) rfl (Nat.le_of_ble_eq_true rfl) ?_
    refine V_if_ne (pc := 127) C dX12_first_127 (tgt := 143) (by decide) (fun q6 => ?_) (fun q6 => ?_)
    · replace hyp := (if_neg q6).symm.trans hyp
      refine V_weak (lv' := [some (.ref 103), none, some (.int x2), some (.int x3), some (.int x4), some (.int x5), some (.int x6), some (.int x7), some (.int x8)]) (lvle_s (lvle_n (lvle_s (lvle_s (lvle_s (lvle_s (lvle_s (lvle_s (lvle_s lvle_0))))))))) ?_
      exact (T_X12_first_b143 C hr31 hr48 hr65) x2 x3 x4 x5 x6 x7 x8 h5 hyp
    · replace hyp := (if_pos q6).symm.trans hyp
      refine V_iload (pc := 130) C dX12_first_130 rfl ?_
      refine V_aload_n (pc := 132) C dX12_first_132 rfl ?_
      refine V_iload (pc := 133) C dX12_first_133 rfl ?_
      refine V_iload_n (pc := 135) C dX12_first_135 rfl ?_
      refine V_ineg (pc := 136) C dX12_first_136 ?_
      obtain ⟨r7, h8, eh8, hyp⟩ := bI_n hyp
      refine V_callI (pc := 137) C dX12_first_137 lm_X12_492 mk_X12_trueOf ok_103 rfl (M_X12_trueOf _ eh8) rfl pd_X12_trueOf (by decide) (by decide) (by decide) (As := [.int x8, .int (-x2)]) (rest := [.int x7]) rfl (Nat.le_of_ble_eq_true rfl) ?_
      refine V_isub (pc := 140) C dX12_first_140 ?_
      obtain ⟨v9, ev9, hyp⟩ := ib_n hyp
      refine V_topI ev9 ?_
      refine V_istore (pc := 141) C dX12_first_141 (by decide) rfl ?_
      refine V_weak (lv' := [some (.ref 103), none, some (.int x2), some (.int x3), some (.int x4), some (.int x5), some (.int x6), some (.int v9), some (.int x8)]) (lvle_s (lvle_n (lvle_s (lvle_s (lvle_s (lvle_s (lvle_s (lvle_s (lvle_s lvle_0))))))))) ?_
      exact (T_X12_first_b143 C hr31 hr48 hr65) x2 x3 x4 x5 x6 v9 x8 h8 hyp
def F_X12_first_b164 (N : Nat) (rc31 : Int32 → Int32 → Int32 → PH → Option (Int32 × PH)) (rc48 : Int32 → Int32 → Int32 → Int32 → Int32 → PH → Option (Int32 × PH)) (x2 : Int32) (x3 : Int32) (x4 : Int32) (x6 : Int32) (s0 : Int32) (h : PH) : Option (Int32 × PH) :=
  ib (x6 + (1 : Int32)) fun v1 =>
  rc48 x2 x3 x4 s0 v1 h
set_option maxRecDepth 20000 in
set_option maxHeartbeats 4000000 in
theorem T_X12_first_b164 {X : CT} (C : CX X 154 cX12_first 9 RX12 (some .int) 1 22) {r0 : Int32} {h0 : PH} {N : Nat} {rc31 : Int32 → Int32 → Int32 → PH → Option (Int32 × PH)} {rc48 : Int32 → Int32 → Int32 → Int32 → Int32 → PH → Option (Int32 × PH)} (hr31 : ∀ (x2 : Int32) (x3 : Int32) (x4 : Int32) (h : PH), rc31 x2 x3 x4 h = some (r0, h0) → V X (QI X r0 h0) h 31 [some (.ref 103), none, some (.int x2), some (.int x3), some (.int x4), none, none, none, none] []) (hr48 : ∀ (x2 : Int32) (x3 : Int32) (x4 : Int32) (x5 : Int32) (x6 : Int32) (h : PH), rc48 x2 x3 x4 x5 x6 h = some (r0, h0) → V X (QI X r0 h0) h 48 [some (.ref 103), none, some (.int x2), some (.int x3), some (.int x4), some (.int x5), some (.int x6), none, none] []) : ∀ (x2 : Int32) (x3 : Int32) (x4 : Int32) (x6 : Int32) (s0 : Int32) (h : PH), F_X12_first_b164 N rc31 rc48 x2 x3 x4 x6 s0 h = some (r0, h0) → V X (QI X r0 h0) h 164 [some (.ref 103), none, some (.int x2), some (.int x3), some (.int x4), none, some (.int x6), none, none] [.int s0] := by
  intro x2 x3 x4 x6 s0 h hyp
  unfold F_X12_first_b164 at hyp
  refine V_istore (pc := 164) C dX12_first_164 (by decide) rfl ?_
  obtain ⟨v1, ev1, hyp⟩ := ib_n hyp
  refine V_iinc (pc := 166) C dX12_first_166 (v := v1) rfl (by rw [ev1]; rfl) (by decide) rfl ?_
  refine V_goto (pc := 169) C dX12_first_169 (tgt := 48) (by decide) ?_
  refine V_weak (lv' := [some (.ref 103), none, some (.int x2), some (.int x3), some (.int x4), some (.int s0), some (.int v1), none, none]) (lvle_s (lvle_n (lvle_s (lvle_s (lvle_s (lvle_s (lvle_s (lvle_n (lvle_n lvle_0))))))))) ?_
  exact hr48 x2 x3 x4 s0 v1 h hyp
def F_X12_first_b163 (N : Nat) (rc31 : Int32 → Int32 → Int32 → PH → Option (Int32 × PH)) (rc48 : Int32 → Int32 → Int32 → Int32 → Int32 → PH → Option (Int32 × PH)) (x2 : Int32) (x3 : Int32) (x4 : Int32) (x6 : Int32) (h : PH) : Option (Int32 × PH) :=
  F_X12_first_b164 N rc31 rc48 x2 x3 x4 x6 (0 : Int32) h
set_option maxRecDepth 20000 in
set_option maxHeartbeats 4000000 in
theorem T_X12_first_b163 {X : CT} (C : CX X 154 cX12_first 9 RX12 (some .int) 1 22) {r0 : Int32} {h0 : PH} {N : Nat} {rc31 : Int32 → Int32 → Int32 → PH → Option (Int32 × PH)} {rc48 : Int32 → Int32 → Int32 → Int32 → Int32 → PH → Option (Int32 × PH)} (hr31 : ∀ (x2 : Int32) (x3 : Int32) (x4 : Int32) (h : PH), rc31 x2 x3 x4 h = some (r0, h0) → V X (QI X r0 h0) h 31 [some (.ref 103), none, some (.int x2), some (.int x3), some (.int x4), none, none, none, none] []) (hr48 : ∀ (x2 : Int32) (x3 : Int32) (x4 : Int32) (x5 : Int32) (x6 : Int32) (h : PH), rc48 x2 x3 x4 x5 x6 h = some (r0, h0) → V X (QI X r0 h0) h 48 [some (.ref 103), none, some (.int x2), some (.int x3), some (.int x4), some (.int x5), some (.int x6), none, none] []) : ∀ (x2 : Int32) (x3 : Int32) (x4 : Int32) (x6 : Int32) (h : PH), F_X12_first_b163 N rc31 rc48 x2 x3 x4 x6 h = some (r0, h0) → V X (QI X r0 h0) h 163 [some (.ref 103), none, some (.int x2), some (.int x3), some (.int x4), none, some (.int x6), none, none] [] := by
  intro x2 x3 x4 x6 h hyp
  unfold F_X12_first_b163 at hyp
  refine V_iconst (pc := 163) C dX12_first_163 (v := 0) (by decide) ?_
  refine V_weak (lv' := [some (.ref 103), none, some (.int x2), some (.int x3), some (.int x4), none, some (.int x6), none, none]) (lvle_s (lvle_n (lvle_s (lvle_s (lvle_s (lvle_n (lvle_s (lvle_n (lvle_n lvle_0))))))))) ?_
  exact (T_X12_first_b164 C hr31 hr48) x2 x3 x4 x6 (0 : Int32) h hyp
def F_X12_first_b149 (N : Nat) (rc31 : Int32 → Int32 → Int32 → PH → Option (Int32 × PH)) (rc48 : Int32 → Int32 → Int32 → Int32 → Int32 → PH → Option (Int32 × PH)) (x2 : Int32) (x3 : Int32) (x4 : Int32) (x5 : Int32) (x6 : Int32) (x7 : Int32) (h : PH) : Option (Int32 × PH) :=
  if x5 = 0 then
    F_X12_first_b163 N rc31 rc48 x2 x3 x4 x6 h
  else
    if x7 < 0 then
      F_X12_first_b163 N rc31 rc48 x2 x3 x4 x6 h
    else
      F_X12_first_b164 N rc31 rc48 x2 x3 x4 x6 (1 : Int32) h
set_option maxRecDepth 20000 in
set_option maxHeartbeats 4000000 in
theorem T_X12_first_b149 {X : CT} (C : CX X 154 cX12_first 9 RX12 (some .int) 1 22) {r0 : Int32} {h0 : PH} {N : Nat} {rc31 : Int32 → Int32 → Int32 → PH → Option (Int32 × PH)} {rc48 : Int32 → Int32 → Int32 → Int32 → Int32 → PH → Option (Int32 × PH)} (hr31 : ∀ (x2 : Int32) (x3 : Int32) (x4 : Int32) (h : PH), rc31 x2 x3 x4 h = some (r0, h0) → V X (QI X r0 h0) h 31 [some (.ref 103), none, some (.int x2), some (.int x3), some (.int x4), none, none, none, none] []) (hr48 : ∀ (x2 : Int32) (x3 : Int32) (x4 : Int32) (x5 : Int32) (x6 : Int32) (h : PH), rc48 x2 x3 x4 x5 x6 h = some (r0, h0) → V X (QI X r0 h0) h 48 [some (.ref 103), none, some (.int x2), some (.int x3), some (.int x4), some (.int x5), some (.int x6), none, none] []) : ∀ (x2 : Int32) (x3 : Int32) (x4 : Int32) (x5 : Int32) (x6 : Int32) (x7 : Int32) (h : PH), F_X12_first_b149 N rc31 rc48 x2 x3 x4 x5 x6 x7 h = some (r0, h0) → V X (QI X r0 h0) h 149 [some (.ref 103), none, some (.int x2), some (.int x3), some (.int x4), some (.int x5), some (.int x6), some (.int x7), none] [] := by
  intro x2 x3 x4 x5 x6 x7 h hyp
  unfold F_X12_first_b149 at hyp
  refine V_iload (pc := 149) C dX12_first_149 rfl ?_
  refine V_if_eq (pc := 151) C dX12_first_151 (tgt := 163) (by decide) (fun q1 => ?_) (fun q1 => ?_)
  · replace hyp := (if_pos q1).symm.trans hyp
    refine V_weak (lv' := [some (.ref 103), none, some (.int x2), some (.int x3), some (.int x4), none, some (.int x6), none, none]) (lvle_s (lvle_n (lvle_s (lvle_s (lvle_s (lvle_n (lvle_s (lvle_n (lvle_n lvle_0))))))))) ?_
    exact (T_X12_first_b163 C hr31 hr48) x2 x3 x4 x6 h hyp
  · replace hyp := (if_neg q1).symm.trans hyp
    refine V_iload (pc := 154) C dX12_first_154 rfl ?_
    refine V_if_lt (pc := 156) C dX12_first_156 (tgt := 163) (by decide) (fun q2 => ?_) (fun q2 => ?_)
    · replace hyp := (if_pos q2).symm.trans hyp
      refine V_weak (lv' := [some (.ref 103), none, some (.int x2), some (.int x3), some (.int x4), none, some (.int x6), none, none]) (lvle_s (lvle_n (lvle_s (lvle_s (lvle_s (lvle_n (lvle_s (lvle_n (lvle_n lvle_0))))))))) ?_
      exact (T_X12_first_b163 C hr31 hr48) x2 x3 x4 x6 h hyp
    · replace hyp := (if_neg q2).symm.trans hyp
      refine V_iconst (pc := 159) C dX12_first_159 (v := 1) (by decide) ?_
      refine V_goto (pc := 160) C dX12_first_160 (tgt := 164) (by decide) ?_
      refine V_weak (lv' := [some (.ref 103), none, some (.int x2), some (.int x3), some (.int x4), none, some (.int x6), none, none]) (lvle_s (lvle_n (lvle_s (lvle_s (lvle_s (lvle_n (lvle_s (lvle_n (lvle_n lvle_0))))))))) ?_
      exact (T_X12_first_b164 C hr31 hr48) x2 x3 x4 x6 (1 : Int32) h hyp
def F_X12_first_b65 (N : Nat) (rc31 : Int32 → Int32 → Int32 → PH → Option (Int32 × PH)) (rc48 : Int32 → Int32 → Int32 → Int32 → Int32 → PH → Option (Int32 × PH)) : Nat → Int32 → Int32 → Int32 → Int32 → Int32 → Int32 → Int32 → PH → Option (Int32 × PH)
  | 0, _, _, _, _, _, _, _, _ => none
  | n + 1, x2, x3, x4, x5, x6, x7, x8, h =>
    if (h.1 103 75) ≤ x8 then
      F_X12_first_b149 N rc31 rc48 x2 x3 x4 x5 x6 x7 h
    else
      bI (F_X12_bends x8 x4 h) fun r2 h3 =>
      if r2 = 0 then
        F_X12_first_b108 N rc31 rc48 (F_X12_first_b65 N rc31 rc48 n) x2 x3 x4 x5 x6 x7 x8 h3
      else
        bI (F_X12_bends x8 x6 h3) fun r5 h6 =>
        if r5 = 0 then
          bI (F_X12_trueOf x8 x2 h6) fun r8 h9 =>
          ib (x7 + r8) fun v10 =>
          F_X12_first_b108 N rc31 rc48 (F_X12_first_b65 N rc31 rc48 n) x2 x3 x4 x5 x6 v10 x8 h9
        else
          F_X12_first_b108 N rc31 rc48 (F_X12_first_b65 N rc31 rc48 n) x2 x3 x4 x5 x6 x7 x8 h6
set_option maxRecDepth 20000 in
set_option maxHeartbeats 4000000 in
theorem T_X12_first_b65 {X : CT} (C : CX X 154 cX12_first 9 RX12 (some .int) 1 22) {r0 : Int32} {h0 : PH} {N : Nat} {rc31 : Int32 → Int32 → Int32 → PH → Option (Int32 × PH)} {rc48 : Int32 → Int32 → Int32 → Int32 → Int32 → PH → Option (Int32 × PH)} (hr31 : ∀ (x2 : Int32) (x3 : Int32) (x4 : Int32) (h : PH), rc31 x2 x3 x4 h = some (r0, h0) → V X (QI X r0 h0) h 31 [some (.ref 103), none, some (.int x2), some (.int x3), some (.int x4), none, none, none, none] []) (hr48 : ∀ (x2 : Int32) (x3 : Int32) (x4 : Int32) (x5 : Int32) (x6 : Int32) (h : PH), rc48 x2 x3 x4 x5 x6 h = some (r0, h0) → V X (QI X r0 h0) h 48 [some (.ref 103), none, some (.int x2), some (.int x3), some (.int x4), some (.int x5), some (.int x6), none, none] []) : ∀ (n : Nat) (x2 : Int32) (x3 : Int32) (x4 : Int32) (x5 : Int32) (x6 : Int32) (x7 : Int32) (x8 : Int32) (h : PH), F_X12_first_b65 N rc31 rc48 n x2 x3 x4 x5 x6 x7 x8 h = some (r0, h0) → V X (QI X r0 h0) h 65 [some (.ref 103), none, some (.int x2), some (.int x3), some (.int x4), some (.int x5), some (.int x6), some (.int x7), some (.int x8)] [] := by
  intro n
  induction n with
  | zero =>
    intro x2 x3 x4 x5 x6 x7 x8 h hyp
    cases hyp
  | succ n ih =>
    intro x2 x3 x4 x5 x6 x7 x8 h hyp
    unfold F_X12_first_b65 at hyp
    refine V_iload (pc := 65) C dX12_first_65 rfl ?_
    refine V_aload_n (pc := 67) C dX12_first_67 rfl ?_
    refine V_getI (pc := 68) C dX12_first_68 lf_X12_206 fk_103_75 ?_
    refine V_icmp_ge (pc := 71) C dX12_first_71 (tgt := 149) (by decide) (fun q1 => ?_) (fun q1 => ?_)
    · replace hyp := (if_pos q1).symm.trans hyp
      refine V_weak (lv' := [some (.ref 103), none, some (.int x2), some (.int x3), some (.int x4), some (.int x5), some (.int x6), some (.int x7), none]) (lvle_s (lvle_n (lvle_s (lvle_s (lvle_s (lvle_s (lvle_s (lvle_s (lvle_n lvle_0))))))))) ?_
      exact (T_X12_first_b149 C hr31 hr48) x2 x3 x4 x5 x6 x7 h hyp
    · replace hyp := (if_neg q1).symm.trans hyp
      refine V_aload_n (pc := 74) C dX12_first_74 rfl ?_
      refine V_iload (pc := 75) C dX12_first_75 rfl ?_
      refine V_iload (pc := 77) C dX12_first_77 rfl ?_
      obtain ⟨r2, h3, eh3, hyp⟩ := bI_n hyp
      refine V_callI (pc := 79) C dX12_first_79 lm_X12_489 mk_X12_bends ok_103 rfl (M_X12_bends _ eh3) rfl pd_X12_bends (by decide) (by decide) (by decide) (As := [.int x8, .int x4]) (rest := []) rfl (Nat.le_of_ble_eq_true rfl) ?_
      refine V_if_eq (pc := 82) C dX12_first_82 (tgt := 108) (by decide) (fun q4 => ?_) (fun q4 => ?_)
      · replace hyp := (if_pos q4).symm.trans hyp
        refine V_weak (lv' := [some (.ref 103), none, some (.int x2), some (.int x3), some (.int x4), some (.int x5), some (.int x6), some (.int x7), some (.int x8)]) (lvle_s (lvle_n (lvle_s (lvle_s (lvle_s (lvle_s (lvle_s (lvle_s (lvle_s lvle_0))))))))) ?_
        exact (T_X12_first_b108 C hr31 hr48 ih) x2 x3 x4 x5 x6 x7 x8 h3 hyp
      · replace hyp := (if_neg q4).symm.trans hyp
        refine V_aload_n (pc := 85) C dX12_first_85 rfl ?_
        refine V_iload (pc := 86) C dX12_first_86 rfl ?_
        refine V_iload (pc := 88) C dX12_first_88 rfl ?_
        obtain ⟨r5, h6, eh6, hyp⟩ := bI_n hyp
        refine V_callI (pc := 90) C dX12_first_90 lm_X12_489 mk_X12_bends ok_103 rfl (M_X12_bends _ eh6) rfl pd_X12_bends (by decide) (by decide) (by decide) (As := [.int x8, .int x6]) (rest := []) rfl (Nat.le_of_ble_eq_true rfl) ?_
        refine V_if_ne (pc := 93) C dX12_first_93 (tgt := 108) (by decide) (fun q7 => ?_) (fun q7 => ?_)
        · replace hyp := (if_neg q7).symm.trans hyp
          refine V_weak (lv' := [some (.ref 103), none, some (.int x2), some (.int x3), some (.int x4), some (.int x5), some (.int x6), some (.int x7), some (.int x8)]) (lvle_s (lvle_n (lvle_s (lvle_s (lvle_s (lvle_s (lvle_s (lvle_s (lvle_s lvle_0))))))))) ?_
          exact (T_X12_first_b108 C hr31 hr48 ih) x2 x3 x4 x5 x6 x7 x8 h6 hyp
        · replace hyp := (if_pos q7).symm.trans hyp
          refine V_iload (pc := 96) C dX12_first_96 rfl ?_
          refine V_aload_n (pc := 98) C dX12_first_98 rfl ?_
          refine V_iload (pc := 99) C dX12_first_99 rfl ?_
          refine V_iload_n (pc := 101) C dX12_first_101 rfl ?_
          obtain ⟨r8, h9, eh9, hyp⟩ := bI_n hyp
          refine V_callI (pc := 102) C dX12_first_102 lm_X12_492 mk_X12_trueOf ok_103 rfl (M_X12_trueOf _ eh9) rfl pd_X12_trueOf (by decide) (by decide) (by decide) (As := [.int x8, .int x2]) (rest := [.int x7]) rfl (Nat.le_of_ble_eq_true rfl) ?_
          refine V_iadd (pc := 105) C dX12_first_105 ?_
          obtain ⟨v10, ev10, hyp⟩ := ib_n hyp
          refine V_topI ev10 ?_
          refine V_istore (pc := 106) C dX12_first_106 (by decide) rfl ?_
          refine V_weak (lv' := [some (.ref 103), none, some (.int x2), some (.int x3), some (.int x4), some (.int x5), some (.int x6), some (.int v10), some (.int x8)]) (lvle_s (lvle_n (lvle_s (lvle_s (lvle_s (lvle_s (lvle_s (lvle_s (lvle_s lvle_0))))))))) ?_
          exact (T_X12_first_b108 C hr31 hr48 ih) x2 x3 x4 x5 x6 v10 x8 h9 hyp
def F_X12_first_b186 (N : Nat) (rc31 : Int32 → Int32 → Int32 → PH → Option (Int32 × PH)) (x2 : Int32) (x4 : Int32) (s0 : Int32) (s1 : Int32) (h : PH) : Option (Int32 × PH) :=
  ib (s1 ||| s0) fun v1 =>
  ib (x4 + (1 : Int32)) fun v2 =>
  rc31 x2 v1 v2 h
set_option maxRecDepth 20000 in
set_option maxHeartbeats 4000000 in
theorem T_X12_first_b186 {X : CT} (C : CX X 154 cX12_first 9 RX12 (some .int) 1 22) {r0 : Int32} {h0 : PH} {N : Nat} {rc31 : Int32 → Int32 → Int32 → PH → Option (Int32 × PH)} (hr31 : ∀ (x2 : Int32) (x3 : Int32) (x4 : Int32) (h : PH), rc31 x2 x3 x4 h = some (r0, h0) → V X (QI X r0 h0) h 31 [some (.ref 103), none, some (.int x2), some (.int x3), some (.int x4), none, none, none, none] []) : ∀ (x2 : Int32) (x4 : Int32) (s0 : Int32) (s1 : Int32) (h : PH), F_X12_first_b186 N rc31 x2 x4 s0 s1 h = some (r0, h0) → V X (QI X r0 h0) h 186 [some (.ref 103), none, some (.int x2), none, some (.int x4), none, none, none, none] [.int s0, .int s1] := by
  intro x2 x4 s0 s1 h hyp
  unfold F_X12_first_b186 at hyp
  refine V_ior (pc := 186) C dX12_first_186 ?_
  obtain ⟨v1, ev1, hyp⟩ := ib_n hyp
  refine V_topI ev1 ?_
  refine V_istore_n (pc := 187) C dX12_first_187 (by decide) rfl ?_
  obtain ⟨v2, ev2, hyp⟩ := ib_n hyp
  refine V_iinc (pc := 188) C dX12_first_188 (v := v2) rfl (by rw [ev2]; rfl) (by decide) rfl ?_
  refine V_goto (pc := 191) C dX12_first_191 (tgt := 31) (by decide) ?_
  refine V_weak (lv' := [some (.ref 103), none, some (.int x2), some (.int v1), some (.int v2), none, none, none, none]) (lvle_s (lvle_n (lvle_s (lvle_s (lvle_s (lvle_n (lvle_n (lvle_n (lvle_n lvle_0))))))))) ?_
  exact hr31 x2 v1 v2 h hyp
def F_X12_first_b172 (N : Nat) (rc31 : Int32 → Int32 → Int32 → PH → Option (Int32 × PH)) (x2 : Int32) (x3 : Int32) (x4 : Int32) (x5 : Int32) (h : PH) : Option (Int32 × PH) :=
  if x5 = 0 then
    F_X12_first_b186 N rc31 x2 x4 (0 : Int32) x3 h
  else
    F_X12_first_b186 N rc31 x2 x4 ((1 : Int32) <<< (x4 &&& 31)) x3 h
set_option maxRecDepth 20000 in
set_option maxHeartbeats 4000000 in
theorem T_X12_first_b172 {X : CT} (C : CX X 154 cX12_first 9 RX12 (some .int) 1 22) {r0 : Int32} {h0 : PH} {N : Nat} {rc31 : Int32 → Int32 → Int32 → PH → Option (Int32 × PH)} (hr31 : ∀ (x2 : Int32) (x3 : Int32) (x4 : Int32) (h : PH), rc31 x2 x3 x4 h = some (r0, h0) → V X (QI X r0 h0) h 31 [some (.ref 103), none, some (.int x2), some (.int x3), some (.int x4), none, none, none, none] []) : ∀ (x2 : Int32) (x3 : Int32) (x4 : Int32) (x5 : Int32) (h : PH), F_X12_first_b172 N rc31 x2 x3 x4 x5 h = some (r0, h0) → V X (QI X r0 h0) h 172 [some (.ref 103), none, some (.int x2), some (.int x3), some (.int x4), some (.int x5), none, none, none] [] := by
  intro x2 x3 x4 x5 h hyp
  unfold F_X12_first_b172 at hyp
  refine V_iload_n (pc := 172) C dX12_first_172 rfl ?_
  refine V_iload (pc := 173) C dX12_first_173 rfl ?_
  refine V_if_eq (pc := 175) C dX12_first_175 (tgt := 185) (by decide) (fun q1 => ?_) (fun q1 => ?_)
  · replace hyp := (if_pos q1).symm.trans hyp
    refine V_iconst (pc := 185) C dX12_first_185 (v := 0) (by decide) ?_
    refine V_weak (lv' := [some (.ref 103), none, some (.int x2), none, some (.int x4), none, none, none, none]) (lvle_s (lvle_n (lvle_s (lvle_n (lvle_s (lvle_n (lvle_n (lvle_n (lvle_n lvle_0))))))))) ?_
    exact (T_X12_first_b186 C hr31) x2 x4 (0 : Int32) x3 h hyp
  · replace hyp := (if_neg q1).symm.trans hyp
    refine V_iconst (pc := 178) C dX12_first_178 (v := 1) (by decide) ?_
    refine V_iload (pc := 179) C dX12_first_179 rfl ?_
    refine V_ishl (pc := 181) C dX12_first_181 ?_
    refine V_goto (pc := 182) C dX12_first_182 (tgt := 186) (by decide) ?_
    refine V_weak (lv' := [some (.ref 103), none, some (.int x2), none, some (.int x4), none, none, none, none]) (lvle_s (lvle_n (lvle_s (lvle_n (lvle_s (lvle_n (lvle_n (lvle_n (lvle_n lvle_0))))))))) ?_
    exact (T_X12_first_b186 C hr31) x2 x4 ((1 : Int32) <<< (x4 &&& 31)) x3 h hyp
def F_X12_first_b48 (N : Nat) (rc31 : Int32 → Int32 → Int32 → PH → Option (Int32 × PH)) : Nat → Int32 → Int32 → Int32 → Int32 → Int32 → PH → Option (Int32 × PH)
  | 0, _, _, _, _, _, _ => none
  | n + 1, x2, x3, x4, x5, x6, h =>
    if ((h.1 103 1) - (1 : Int32)) ≤ x6 then
      F_X12_first_b172 N rc31 x2 x3 x4 x5 h
    else
      F_X12_first_b65 N rc31 (F_X12_first_b48 N rc31 n) N x2 x3 x4 x5 x6 (0 : Int32) (0 : Int32) h
set_option maxRecDepth 20000 in
set_option maxHeartbeats 4000000 in
theorem T_X12_first_b48 {X : CT} (C : CX X 154 cX12_first 9 RX12 (some .int) 1 22) {r0 : Int32} {h0 : PH} {N : Nat} {rc31 : Int32 → Int32 → Int32 → PH → Option (Int32 × PH)} (hr31 : ∀ (x2 : Int32) (x3 : Int32) (x4 : Int32) (h : PH), rc31 x2 x3 x4 h = some (r0, h0) → V X (QI X r0 h0) h 31 [some (.ref 103), none, some (.int x2), some (.int x3), some (.int x4), none, none, none, none] []) : ∀ (n : Nat) (x2 : Int32) (x3 : Int32) (x4 : Int32) (x5 : Int32) (x6 : Int32) (h : PH), F_X12_first_b48 N rc31 n x2 x3 x4 x5 x6 h = some (r0, h0) → V X (QI X r0 h0) h 48 [some (.ref 103), none, some (.int x2), some (.int x3), some (.int x4), some (.int x5), some (.int x6), none, none] [] := by
  intro n
  induction n with
  | zero =>
    intro x2 x3 x4 x5 x6 h hyp
    cases hyp
  | succ n ih =>
    intro x2 x3 x4 x5 x6 h hyp
    unfold F_X12_first_b48 at hyp
    refine V_iload (pc := 48) C dX12_first_48 rfl ?_
    refine V_aload_n (pc := 50) C dX12_first_50 rfl ?_
    refine V_getI (pc := 51) C dX12_first_51 lf_X12_7 fk_103_1 ?_
    refine V_iconst (pc := 54) C dX12_first_54 (v := 1) (by decide) ?_
    refine V_isub (pc := 55) C dX12_first_55 ?_
    refine V_icmp_ge (pc := 56) C dX12_first_56 (tgt := 172) (by decide) (fun q1 => ?_) (fun q1 => ?_)
    · replace hyp := (if_pos q1).symm.trans hyp
      refine V_weak (lv' := [some (.ref 103), none, some (.int x2), some (.int x3), some (.int x4), some (.int x5), none, none, none]) (lvle_s (lvle_n (lvle_s (lvle_s (lvle_s (lvle_s (lvle_n (lvle_n (lvle_n lvle_0))))))))) ?_
      exact (T_X12_first_b172 C hr31) x2 x3 x4 x5 h hyp
    · replace hyp := (if_neg q1).symm.trans hyp
      refine V_iconst (pc := 59) C dX12_first_59 (v := 0) (by decide) ?_
      refine V_istore (pc := 60) C dX12_first_60 (by decide) rfl ?_
      refine V_iconst (pc := 62) C dX12_first_62 (v := 0) (by decide) ?_
      refine V_istore (pc := 63) C dX12_first_63 (by decide) rfl ?_
      refine V_weak (lv' := [some (.ref 103), none, some (.int x2), some (.int x3), some (.int x4), some (.int x5), some (.int x6), some (.int (0 : Int32)), some (.int (0 : Int32))]) (lvle_s (lvle_n (lvle_s (lvle_s (lvle_s (lvle_s (lvle_s (lvle_s (lvle_s lvle_0))))))))) ?_
      exact (T_X12_first_b65 C hr31 ih) N x2 x3 x4 x5 x6 (0 : Int32) (0 : Int32) h hyp
def F_X12_first_b31 (N : Nat) : Nat → Int32 → Int32 → Int32 → PH → Option (Int32 × PH)
  | 0, _, _, _, _ => none
  | n + 1, x2, x3, x4, h =>
    if ((h.1 103 1) - (1 : Int32)) ≤ x4 then
      some (x3, h)
    else
      F_X12_first_b48 N (F_X12_first_b31 N n) N x2 x3 x4 (1 : Int32) (0 : Int32) h
set_option maxRecDepth 20000 in
set_option maxHeartbeats 4000000 in
theorem T_X12_first_b31 {X : CT} (C : CX X 154 cX12_first 9 RX12 (some .int) 1 22) {r0 : Int32} {h0 : PH} {N : Nat} : ∀ (n : Nat) (x2 : Int32) (x3 : Int32) (x4 : Int32) (h : PH), F_X12_first_b31 N n x2 x3 x4 h = some (r0, h0) → V X (QI X r0 h0) h 31 [some (.ref 103), none, some (.int x2), some (.int x3), some (.int x4), none, none, none, none] [] := by
  intro n
  induction n with
  | zero =>
    intro x2 x3 x4 h hyp
    cases hyp
  | succ n ih =>
    intro x2 x3 x4 h hyp
    unfold F_X12_first_b31 at hyp
    refine V_iload (pc := 31) C dX12_first_31 rfl ?_
    refine V_aload_n (pc := 33) C dX12_first_33 rfl ?_
    refine V_getI (pc := 34) C dX12_first_34 lf_X12_7 fk_103_1 ?_
    refine V_iconst (pc := 37) C dX12_first_37 (v := 1) (by decide) ?_
    refine V_isub (pc := 38) C dX12_first_38 ?_
    refine V_icmp_ge (pc := 39) C dX12_first_39 (tgt := 194) (by decide) (fun q1 => ?_) (fun q1 => ?_)
    · replace hyp := (if_pos q1).symm.trans hyp
      refine V_iload_n (pc := 194) C dX12_first_194 rfl ?_
      cases hyp
      exact V_iret C dX12_first_195
    · replace hyp := (if_neg q1).symm.trans hyp
      refine V_iconst (pc := 42) C dX12_first_42 (v := 1) (by decide) ?_
      refine V_istore (pc := 43) C dX12_first_43 (by decide) rfl ?_
      refine V_iconst (pc := 45) C dX12_first_45 (v := 0) (by decide) ?_
      refine V_istore (pc := 46) C dX12_first_46 (by decide) rfl ?_
      refine V_weak (lv' := [some (.ref 103), none, some (.int x2), some (.int x3), some (.int x4), some (.int (1 : Int32)), some (.int (0 : Int32)), none, none]) (lvle_s (lvle_n (lvle_s (lvle_s (lvle_s (lvle_s (lvle_s (lvle_n (lvle_n lvle_0))))))))) ?_
      exact (T_X12_first_b48 C ih) N x2 x3 x4 (1 : Int32) (0 : Int32) h hyp
def F_X12_first_b25 (N : Nat) (s0 : Int32) (h : PH) : Option (Int32 × PH) :=
  F_X12_first_b31 N N s0 (0 : Int32) (0 : Int32) h
set_option maxRecDepth 20000 in
set_option maxHeartbeats 4000000 in
theorem T_X12_first_b25 {X : CT} (C : CX X 154 cX12_first 9 RX12 (some .int) 1 22) {r0 : Int32} {h0 : PH} {N : Nat} : ∀ (s0 : Int32) (h : PH), F_X12_first_b25 N s0 h = some (r0, h0) → V X (QI X r0 h0) h 25 [some (.ref 103), none, none, none, none, none, none, none, none] [.int s0] := by
  intro s0 h hyp
  unfold F_X12_first_b25 at hyp
  refine V_istore_n (pc := 25) C dX12_first_25 (by decide) rfl ?_
  refine V_iconst (pc := 26) C dX12_first_26 (v := 0) (by decide) ?_
  refine V_istore_n (pc := 27) C dX12_first_27 (by decide) rfl ?_
  refine V_iconst (pc := 28) C dX12_first_28 (v := 0) (by decide) ?_
  refine V_istore (pc := 29) C dX12_first_29 (by decide) rfl ?_
  refine V_weak (lv' := [some (.ref 103), none, some (.int s0), some (.int (0 : Int32)), some (.int (0 : Int32)), none, none, none, none]) (lvle_s (lvle_n (lvle_s (lvle_s (lvle_s (lvle_n (lvle_n (lvle_n (lvle_n lvle_0))))))))) ?_
  exact (T_X12_first_b31 C) N s0 (0 : Int32) (0 : Int32) h hyp
def F_X12_first (N : Nat) (a1 : Int32) (h : PH) : Option (Int32 × PH) :=
  hb (hs h 103 0 (0 : Int32)) fun h1 =>
  bI (F_X12_within a1 (0 : Int32) (1 : Int32) h1) fun r2 h3 =>
  if r2 = 0 then
    some ((-1 : Int32), h3)
  else
    if a1 = 0 then
      F_X12_first_b25 N (1 : Int32) h3
    else
      F_X12_first_b25 N (-1 : Int32) h3
set_option maxRecDepth 20000 in
set_option maxHeartbeats 4000000 in
theorem M_X12_first (E : EV) {N : Nat} {a1 : Int32} {r : Int32} {h h2 : PH} (hyp : F_X12_first N a1 h = some (r, h2)) : MI E 154 yX12_first cX12_first 9 (some .int) 1 22 [.ref 103, .int a1] h r h2 := by
  refine MI.of 7 (by decide) rfl (fun X e1 C => ?_)
  subst e1
  replace C : CX X 154 cX12_first 9 RX12 (some .int) 1 22 := C
  show V X _ h 0 [some (.ref 103), some (.int a1), none, none, none, none, none, none, none] []
  unfold F_X12_first at hyp
  refine V_aload_n (pc := 0) C dX12_first_0 rfl ?_
  refine V_iconst (pc := 1) C dX12_first_1 (v := 0) (by decide) ?_
  obtain ⟨h1, eh1, hyp⟩ := hb_n hyp
  refine V_putI (pc := 2) C dX12_first_2 lf_X12_180 fk_103_0 rfl rfl eh1 ?_
  refine V_iload_n (pc := 5) C dX12_first_5 rfl ?_
  refine V_iconst (pc := 6) C dX12_first_6 (v := 0) (by decide) ?_
  refine V_iconst (pc := 7) C dX12_first_7 (v := 1) (by decide) ?_
  obtain ⟨r2, h3, eh3, hyp⟩ := bI_n hyp
  refine V_statI (pc := 8) C dX12_first_8 lm_X12_183 ms_X12_within (M_X12_within _ eh3) rfl pd_X12_within (by decide) (by decide) (by decide) (As := [.int a1, .int (0 : Int32), .int (1 : Int32)]) (rest := []) rfl (Nat.le_of_ble_eq_true rfl) ?_
  refine V_if_ne (pc := 11) C dX12_first_11 (tgt := 16) (by decide) (fun q4 => ?_) (fun q4 => ?_)
  · replace hyp := (if_neg q4).symm.trans hyp
    refine V_iload_n (pc := 16) C dX12_first_16 rfl ?_
    refine V_if_ne (pc := 17) C dX12_first_17 (tgt := 24) (by decide) (fun q5 => ?_) (fun q5 => ?_)
    · replace hyp := (if_neg q5).symm.trans hyp
      refine V_iconst (pc := 24) C dX12_first_24 (v := -1) (by decide) ?_
      refine V_weak (lv' := [some (.ref 103), none, none, none, none, none, none, none, none]) (lvle_s (lvle_n (lvle_n (lvle_n (lvle_n (lvle_n (lvle_n (lvle_n (lvle_n lvle_0))))))))) ?_
      exact (T_X12_first_b25 C) (-1 : Int32) h3 hyp
    · replace hyp := (if_pos q5).symm.trans hyp
      refine V_iconst (pc := 20) C dX12_first_20 (v := 1) (by decide) ?_
      refine V_goto (pc := 21) C dX12_first_21 (tgt := 25) (by decide) ?_
      refine V_weak (lv' := [some (.ref 103), none, none, none, none, none, none, none, none]) (lvle_s (lvle_n (lvle_n (lvle_n (lvle_n (lvle_n (lvle_n (lvle_n (lvle_n lvle_0))))))))) ?_
      exact (T_X12_first_b25 C) (1 : Int32) h3 hyp
  · replace hyp := (if_pos q4).symm.trans hyp
    refine V_iconst (pc := 14) C dX12_first_14 (v := -1) (by decide) ?_
    cases hyp
    exact V_iret C dX12_first_15
theorem dX12_lasts_0 : decode cX12_lasts 0 = .ok (.aload_n 0, 1) := by decide +kernel
theorem dX12_lasts_1 : decode cX12_lasts 1 = .ok (.iconst 0, 1) := by decide +kernel
theorem dX12_lasts_2 : decode cX12_lasts 2 = .ok (.putfield 180, 3) := by decide +kernel
theorem dX12_lasts_5 : decode cX12_lasts 5 = .ok (.aload_n 0, 1) := by decide +kernel
theorem dX12_lasts_6 : decode cX12_lasts 6 = .ok (.iload_n 1, 1) := by decide +kernel
theorem dX12_lasts_7 : decode cX12_lasts 7 = .ok (.invokevirtual 495, 3) := by decide +kernel
theorem dX12_lasts_10 : decode cX12_lasts 10 = .ok (.ifCond .eq 12, 3) := by decide +kernel
theorem dX12_lasts_13 : decode cX12_lasts 13 = .ok (.iload_n 2, 1) := by decide +kernel
theorem dX12_lasts_14 : decode cX12_lasts 14 = .ok (.iconst 0, 1) := by decide +kernel
theorem dX12_lasts_15 : decode cX12_lasts 15 = .ok (.iconst 1, 1) := by decide +kernel
theorem dX12_lasts_16 : decode cX12_lasts 16 = .ok (.invokestatic 183, 3) := by decide +kernel
theorem dX12_lasts_19 : decode cX12_lasts 19 = .ok (.ifCond .ne 7, 3) := by decide +kernel
theorem dX12_lasts_22 : decode cX12_lasts 22 = .ok (.ldc2_w 501, 3) := by decide +kernel
theorem dX12_lasts_25 : decode cX12_lasts 25 = .ok (.lreturn, 1) := by decide +kernel
theorem dX12_lasts_26 : decode cX12_lasts 26 = .ok (.aload_n 0, 1) := by decide +kernel
theorem dX12_lasts_27 : decode cX12_lasts 27 = .ok (.iload_n 1, 1) := by decide +kernel
theorem dX12_lasts_28 : decode cX12_lasts 28 = .ok (.iload_n 2, 1) := by decide +kernel
theorem dX12_lasts_29 : decode cX12_lasts 29 = .ok (.ifCond .ne 7, 3) := by decide +kernel
theorem dX12_lasts_32 : decode cX12_lasts 32 = .ok (.iconst 1, 1) := by decide +kernel
theorem dX12_lasts_33 : decode cX12_lasts 33 = .ok (.goto 4, 3) := by decide +kernel
theorem dX12_lasts_36 : decode cX12_lasts 36 = .ok (.iconst (-1), 1) := by decide +kernel
theorem dX12_lasts_37 : decode cX12_lasts 37 = .ok (.invokevirtual 498, 3) := by decide +kernel
theorem dX12_lasts_40 : decode cX12_lasts 40 = .ok (.istore_n 3, 1) := by decide +kernel
theorem dX12_lasts_41 : decode cX12_lasts 41 = .ok (.iload_n 3, 1) := by decide +kernel
theorem dX12_lasts_42 : decode cX12_lasts 42 = .ok (.ifCond .ne 7, 3) := by decide +kernel
theorem dX12_lasts_45 : decode cX12_lasts 45 = .ok (.ldc2_w 501, 3) := by decide +kernel
theorem dX12_lasts_48 : decode cX12_lasts 48 = .ok (.lreturn, 1) := by decide +kernel
theorem dX12_lasts_49 : decode cX12_lasts 49 = .ok (.iload_n 3, 1) := by decide +kernel
theorem dX12_lasts_50 : decode cX12_lasts 50 = .ok (.aload_n 0, 1) := by decide +kernel
theorem dX12_lasts_51 : decode cX12_lasts 51 = .ok (.getfield 174, 3) := by decide +kernel
theorem dX12_lasts_54 : decode cX12_lasts 54 = .ok (.if_icmp .lt 7, 3) := by decide +kernel
theorem dX12_lasts_57 : decode cX12_lasts 57 = .ok (.lconst 0, 1) := by decide +kernel
theorem dX12_lasts_58 : decode cX12_lasts 58 = .ok (.goto 19, 3) := by decide +kernel
theorem dX12_lasts_61 : decode cX12_lasts 61 = .ok (.aload_n 0, 1) := by decide +kernel
theorem dX12_lasts_62 : decode cX12_lasts 62 = .ok (.getfield 174, 3) := by decide +kernel
theorem dX12_lasts_65 : decode cX12_lasts 65 = .ok (.iload_n 3, 1) := by decide +kernel
theorem dX12_lasts_66 : decode cX12_lasts 66 = .ok (.isub, 1) := by decide +kernel
theorem dX12_lasts_67 : decode cX12_lasts 67 = .ok (.i2l, 1) := by decide +kernel
theorem dX12_lasts_68 : decode cX12_lasts 68 = .ok (.aload_n 0, 1) := by decide +kernel
theorem dX12_lasts_69 : decode cX12_lasts 69 = .ok (.getfield 177, 3) := by decide +kernel
theorem dX12_lasts_72 : decode cX12_lasts 72 = .ok (.i2l, 1) := by decide +kernel
theorem dX12_lasts_73 : decode cX12_lasts 73 = .ok (.lmul, 1) := by decide +kernel
theorem dX12_lasts_74 : decode cX12_lasts 74 = .ok (.iload_n 3, 1) := by decide +kernel
theorem dX12_lasts_75 : decode cX12_lasts 75 = .ok (.i2l, 1) := by decide +kernel
theorem dX12_lasts_76 : decode cX12_lasts 76 = .ok (.ldiv, 1) := by decide +kernel
theorem dX12_lasts_77 : decode cX12_lasts 77 = .ok (.lreturn, 1) := by decide +kernel
def F_X12_lasts_b37 (N : Nat) (s0 : Int32) (s1 : Int32) (h : PH) : Option (Int64 × PH) :=
  bI (F_X12_bendsOf N s1 s0 h) fun r1 h2 =>
  if r1 = 0 then
    some ((-1 : Int64), h2)
  else
    if r1 < (h2.1 103 80) then
      if ¬ r1.toInt64 = 0 then
      some (((((h2.1 103 80) - r1).toInt64) * ((h2.1 103 81).toInt64)) / r1.toInt64, h2)
      else none
    else
      some ((0 : Int64), h2)
set_option maxRecDepth 20000 in
set_option maxHeartbeats 4000000 in
theorem T_X12_lasts_b37 {X : CT} (C : CX X 154 cX12_lasts 4 RX12 (some .long) 2 46) {r0 : Int64} {h0 : PH} {N : Nat} : ∀ (s0 : Int32) (s1 : Int32) (h : PH), F_X12_lasts_b37 N s0 s1 h = some (r0, h0) → V X (QL X r0 h0) h 37 [some (.ref 103), none, none, none] [.int s0, .int s1, .ref 103] := by
  intro s0 s1 h hyp
  unfold F_X12_lasts_b37 at hyp
  obtain ⟨r1, h2, eh2, hyp⟩ := bI_n hyp
  refine V_callI (pc := 37) C dX12_lasts_37 lm_X12_498 mk_X12_bendsOf ok_103 rfl (M_X12_bendsOf _ eh2) rfl pd_X12_bendsOf (by decide) (by decide) (by decide) (As := [.int s1, .int s0]) (rest := []) rfl (Nat.le_of_ble_eq_true rfl) ?_
  refine V_istore_n (pc := 40) C dX12_lasts_40 (by decide) rfl ?_
  refine V_iload_n (pc := 41) C dX12_lasts_41 rfl ?_
  refine V_if_ne (pc := 42) C dX12_lasts_42 (tgt := 49) (by decide) (fun q3 => ?_) (fun q3 => ?_)
  · replace hyp := (if_neg q3).symm.trans hyp
    refine V_iload_n (pc := 49) C dX12_lasts_49 rfl ?_
    refine V_aload_n (pc := 50) C dX12_lasts_50 rfl ?_
    refine V_getI (pc := 51) C dX12_lasts_51 lf_X12_174 fk_103_80 ?_
    refine V_icmp_lt (pc := 54) C dX12_lasts_54 (tgt := 61) (by decide) (fun q4 => ?_) (fun q4 => ?_)
    · replace hyp := (if_pos q4).symm.trans hyp
      refine V_aload_n (pc := 61) C dX12_lasts_61 rfl ?_
      refine V_getI (pc := 62) C dX12_lasts_62 lf_X12_174 fk_103_80 ?_
      refine V_iload_n (pc := 65) C dX12_lasts_65 rfl ?_
      refine V_isub (pc := 66) C dX12_lasts_66 ?_
      refine V_i2l (pc := 67) C dX12_lasts_67 ?_
      refine V_aload_n (pc := 68) C dX12_lasts_68 rfl ?_
      refine V_getI (pc := 69) C dX12_lasts_69 lf_X12_177 fk_103_81 ?_
      refine V_i2l (pc := 72) C dX12_lasts_72 ?_
      refine V_lmul (pc := 73) C dX12_lasts_73 ?_
      refine V_iload_n (pc := 74) C dX12_lasts_74 rfl ?_
      refine V_i2l (pc := 75) C dX12_lasts_75 ?_
      obtain ⟨g5, hyp⟩ := gd_n hyp
      refine V_ldiv (pc := 76) C dX12_lasts_76 g5 ?_
      cases hyp
      exact V_lret C dX12_lasts_77
    · replace hyp := (if_neg q4).symm.trans hyp
      refine V_lconst (pc := 57) C dX12_lasts_57 (v := 0) (by decide) ?_
      refine V_goto (pc := 58) C dX12_lasts_58 (tgt := 77) (by decide) ?_
      cases hyp
      exact V_lret C dX12_lasts_77
  · replace hyp := (if_pos q3).symm.trans hyp
    refine V_ldc2 (pc := 45) C dX12_lasts_45 ll_X12_501 ?_
    cases hyp
    exact V_lret C dX12_lasts_48
def F_X12_lasts (N : Nat) (a1 : Int32) (a2 : Int32) (h : PH) : Option (Int64 × PH) :=
  hb (hs h 103 0 (0 : Int32)) fun h1 =>
  bI (F_X12_isPart a1 h1) fun r2 h3 =>
  if r2 = 0 then
    some ((-1 : Int64), h3)
  else
    bI (F_X12_within a2 (0 : Int32) (1 : Int32) h3) fun r5 h6 =>
    if r5 = 0 then
      some ((-1 : Int64), h6)
    else
      if a2 = 0 then
        F_X12_lasts_b37 N (1 : Int32) a1 h6
      else
        F_X12_lasts_b37 N (-1 : Int32) a1 h6
set_option maxRecDepth 20000 in
set_option maxHeartbeats 4000000 in
theorem M_X12_lasts (E : EV) {N : Nat} {a1 : Int32} {a2 : Int32} {r : Int64} {h h2 : PH} (hyp : F_X12_lasts N a1 a2 h = some (r, h2)) : ML E 154 yX12_lasts cX12_lasts 4 (some .long) 2 46 [.ref 103, .int a1, .int a2] h r h2 := by
  refine ML.of 1 (by decide) rfl (fun X e1 C => ?_)
  subst e1
  replace C : CX X 154 cX12_lasts 4 RX12 (some .long) 2 46 := C
  show V X _ h 0 [some (.ref 103), some (.int a1), some (.int a2), none] []
  unfold F_X12_lasts at hyp
  refine V_aload_n (pc := 0) C dX12_lasts_0 rfl ?_
  refine V_iconst (pc := 1) C dX12_lasts_1 (v := 0) (by decide) ?_
  obtain ⟨h1, eh1, hyp⟩ := hb_n hyp
  refine V_putI (pc := 2) C dX12_lasts_2 lf_X12_180 fk_103_0 rfl rfl eh1 ?_
  refine V_aload_n (pc := 5) C dX12_lasts_5 rfl ?_
  refine V_iload_n (pc := 6) C dX12_lasts_6 rfl ?_
  obtain ⟨r2, h3, eh3, hyp⟩ := bI_n hyp
  refine V_callI (pc := 7) C dX12_lasts_7 lm_X12_495 mk_X12_isPart ok_103 rfl (M_X12_isPart _ eh3) rfl pd_X12_isPart (by decide) (by decide) (by decide) (As := [.int a1]) (rest := []) rfl (Nat.le_of_ble_eq_true rfl) ?_
  refine V_if_eq (pc := 10) C dX12_lasts_10 (tgt := 22) (by decide) (fun q4 => ?_) (fun q4 => ?_)
  · replace hyp := (if_pos q4).symm.trans hyp
    refine V_ldc2 (pc := 22) C dX12_lasts_22 ll_X12_501 ?_
    cases hyp
    exact V_lret C dX12_lasts_25
  · replace hyp := (if_neg q4).symm.trans hyp
    refine V_iload_n (pc := 13) C dX12_lasts_13 rfl ?_
    refine V_iconst (pc := 14) C dX12_lasts_14 (v := 0) (by decide) ?_
    refine V_iconst (pc := 15) C dX12_lasts_15 (v := 1) (by decide) ?_
    obtain ⟨r5, h6, eh6, hyp⟩ := bI_n hyp
    refine V_statI (pc := 16) C dX12_lasts_16 lm_X12_183 ms_X12_within (M_X12_within _ eh6) rfl pd_X12_within (by decide) (by decide) (by decide) (As := [.int a2, .int (0 : Int32), .int (1 : Int32)]) (rest := []) rfl (Nat.le_of_ble_eq_true rfl) ?_
    refine V_if_ne (pc := 19) C dX12_lasts_19 (tgt := 26) (by decide) (fun q7 => ?_) (fun q7 => ?_)
    · replace hyp := (if_neg q7).symm.trans hyp
      refine V_aload_n (pc := 26) C dX12_lasts_26 rfl ?_
      refine V_iload_n (pc := 27) C dX12_lasts_27 rfl ?_
      refine V_iload_n (pc := 28) C dX12_lasts_28 rfl ?_
      refine V_if_ne (pc := 29) C dX12_lasts_29 (tgt := 36) (by decide) (fun q8 => ?_) (fun q8 => ?_)
      · replace hyp := (if_neg q8).symm.trans hyp
        refine V_iconst (pc := 36) C dX12_lasts_36 (v := -1) (by decide) ?_
        refine V_weak (lv' := [some (.ref 103), none, none, none]) (lvle_s (lvle_n (lvle_n (lvle_n lvle_0)))) ?_
        exact (T_X12_lasts_b37 C) (-1 : Int32) a1 h6 hyp
      · replace hyp := (if_pos q8).symm.trans hyp
        refine V_iconst (pc := 32) C dX12_lasts_32 (v := 1) (by decide) ?_
        refine V_goto (pc := 33) C dX12_lasts_33 (tgt := 37) (by decide) ?_
        refine V_weak (lv' := [some (.ref 103), none, none, none]) (lvle_s (lvle_n (lvle_n (lvle_n lvle_0)))) ?_
        exact (T_X12_lasts_b37 C) (1 : Int32) a1 h6 hyp
    · replace hyp := (if_pos q7).symm.trans hyp
      refine V_ldc2 (pc := 22) C dX12_lasts_22 ll_X12_501 ?_
      cases hyp
      exact V_lret C dX12_lasts_25
theorem dX12_count_0 : decode cX12_count 0 = .ok (.aload_n 0, 1) := by decide +kernel
theorem dX12_count_1 : decode cX12_count 1 = .ok (.iconst 0, 1) := by decide +kernel
theorem dX12_count_2 : decode cX12_count 2 = .ok (.putfield 180, 3) := by decide +kernel
theorem dX12_count_5 : decode cX12_count 5 = .ok (.iload_n 1, 1) := by decide +kernel
theorem dX12_count_6 : decode cX12_count 6 = .ok (.iconst 0, 1) := by decide +kernel
theorem dX12_count_7 : decode cX12_count 7 = .ok (.bipush 7, 2) := by decide +kernel
theorem dX12_count_9 : decode cX12_count 9 = .ok (.invokestatic 183, 3) := by decide +kernel
theorem dX12_count_12 : decode cX12_count 12 = .ok (.ifCond .ne 5, 3) := by decide +kernel
theorem dX12_count_15 : decode cX12_count 15 = .ok (.iconst (-1), 1) := by decide +kernel
theorem dX12_count_16 : decode cX12_count 16 = .ok (.ireturn, 1) := by decide +kernel
theorem dX12_count_17 : decode cX12_count 17 = .ok (.iload_n 1, 1) := by decide +kernel
theorem dX12_count_18 : decode cX12_count 18 = .ok (.iconst 1, 1) := by decide +kernel
theorem dX12_count_19 : decode cX12_count 19 = .ok (.if_icmp .ne 39, 3) := by decide +kernel
theorem dX12_count_22 : decode cX12_count 22 = .ok (.iconst 0, 1) := by decide +kernel
theorem dX12_count_23 : decode cX12_count 23 = .ok (.istore_n 2, 1) := by decide +kernel
theorem dX12_count_24 : decode cX12_count 24 = .ok (.bipush 19, 2) := by decide +kernel
theorem dX12_count_26 : decode cX12_count 26 = .ok (.istore_n 3, 1) := by decide +kernel
theorem dX12_count_27 : decode cX12_count 27 = .ok (.iload_n 3, 1) := by decide +kernel
theorem dX12_count_28 : decode cX12_count 28 = .ok (.bipush 25, 2) := by decide +kernel
theorem dX12_count_30 : decode cX12_count 30 = .ok (.if_icmp .ge 26, 3) := by decide +kernel
theorem dX12_count_33 : decode cX12_count 33 = .ok (.iload_n 2, 1) := by decide +kernel
theorem dX12_count_34 : decode cX12_count 34 = .ok (.aload_n 0, 1) := by decide +kernel
theorem dX12_count_35 : decode cX12_count 35 = .ok (.getfield 17, 3) := by decide +kernel
theorem dX12_count_38 : decode cX12_count 38 = .ok (.iload_n 3, 1) := by decide +kernel
theorem dX12_count_39 : decode cX12_count 39 = .ok (.baload, 1) := by decide +kernel
theorem dX12_count_40 : decode cX12_count 40 = .ok (.ifCond .eq 7, 3) := by decide +kernel
theorem dX12_count_43 : decode cX12_count 43 = .ok (.iconst 1, 1) := by decide +kernel
theorem dX12_count_44 : decode cX12_count 44 = .ok (.goto 4, 3) := by decide +kernel
theorem dX12_count_47 : decode cX12_count 47 = .ok (.iconst 0, 1) := by decide +kernel
theorem dX12_count_48 : decode cX12_count 48 = .ok (.iadd, 1) := by decide +kernel
theorem dX12_count_49 : decode cX12_count 49 = .ok (.istore_n 2, 1) := by decide +kernel
theorem dX12_count_50 : decode cX12_count 50 = .ok (.iinc 3 1, 3) := by decide +kernel
theorem dX12_count_53 : decode cX12_count 53 = .ok (.goto (-26), 3) := by decide +kernel
theorem dX12_count_56 : decode cX12_count 56 = .ok (.iload_n 2, 1) := by decide +kernel
theorem dX12_count_57 : decode cX12_count 57 = .ok (.ireturn, 1) := by decide +kernel
theorem dX12_count_58 : decode cX12_count 58 = .ok (.iload_n 1, 1) := by decide +kernel
theorem dX12_count_59 : decode cX12_count 59 = .ok (.iconst 2, 1) := by decide +kernel
theorem dX12_count_60 : decode cX12_count 60 = .ok (.if_icmp .ne 7, 3) := by decide +kernel
theorem dX12_count_63 : decode cX12_count 63 = .ok (.aload_n 0, 1) := by decide +kernel
theorem dX12_count_64 : decode cX12_count 64 = .ok (.invokevirtual 393, 3) := by decide +kernel
theorem dX12_count_67 : decode cX12_count 67 = .ok (.iload_n 1, 1) := by decide +kernel
theorem dX12_count_68 : decode cX12_count 68 = .ok (.ifCond .ne 10, 3) := by decide +kernel
theorem dX12_count_71 : decode cX12_count 71 = .ok (.aload_n 0, 1) := by decide +kernel
theorem dX12_count_72 : decode cX12_count 72 = .ok (.getfield 7, 3) := by decide +kernel
theorem dX12_count_75 : decode cX12_count 75 = .ok (.goto 68, 3) := by decide +kernel
theorem dX12_count_78 : decode cX12_count 78 = .ok (.iload_n 1, 1) := by decide +kernel
theorem dX12_count_79 : decode cX12_count 79 = .ok (.iconst 2, 1) := by decide +kernel
theorem dX12_count_80 : decode cX12_count 80 = .ok (.if_icmp .ne 10, 3) := by decide +kernel
theorem dX12_count_83 : decode cX12_count 83 = .ok (.aload_n 0, 1) := by decide +kernel
theorem dX12_count_84 : decode cX12_count 84 = .ok (.getfield 386, 3) := by decide +kernel
theorem dX12_count_87 : decode cX12_count 87 = .ok (.goto 56, 3) := by decide +kernel
theorem dX12_count_90 : decode cX12_count 90 = .ok (.iload_n 1, 1) := by decide +kernel
theorem dX12_count_91 : decode cX12_count 91 = .ok (.iconst 3, 1) := by decide +kernel
theorem dX12_count_92 : decode cX12_count 92 = .ok (.if_icmp .ne 10, 3) := by decide +kernel
theorem dX12_count_95 : decode cX12_count 95 = .ok (.aload_n 0, 1) := by decide +kernel
theorem dX12_count_96 : decode cX12_count 96 = .ok (.getfield 111, 3) := by decide +kernel
theorem dX12_count_99 : decode cX12_count 99 = .ok (.goto 44, 3) := by decide +kernel
theorem dX12_count_102 : decode cX12_count 102 = .ok (.iload_n 1, 1) := by decide +kernel
theorem dX12_count_103 : decode cX12_count 103 = .ok (.iconst 4, 1) := by decide +kernel
theorem dX12_count_104 : decode cX12_count 104 = .ok (.if_icmp .ne 10, 3) := by decide +kernel
theorem dX12_count_107 : decode cX12_count 107 = .ok (.aload_n 0, 1) := by decide +kernel
theorem dX12_count_108 : decode cX12_count 108 = .ok (.getfield 424, 3) := by decide +kernel
theorem dX12_count_111 : decode cX12_count 111 = .ok (.goto 32, 3) := by decide +kernel
theorem dX12_count_114 : decode cX12_count 114 = .ok (.iload_n 1, 1) := by decide +kernel
theorem dX12_count_115 : decode cX12_count 115 = .ok (.iconst 5, 1) := by decide +kernel
theorem dX12_count_116 : decode cX12_count 116 = .ok (.if_icmp .ne 10, 3) := by decide +kernel
theorem dX12_count_119 : decode cX12_count 119 = .ok (.aload_n 0, 1) := by decide +kernel
theorem dX12_count_120 : decode cX12_count 120 = .ok (.getfield 427, 3) := by decide +kernel
theorem dX12_count_123 : decode cX12_count 123 = .ok (.goto 20, 3) := by decide +kernel
theorem dX12_count_126 : decode cX12_count 126 = .ok (.iload_n 1, 1) := by decide +kernel
theorem dX12_count_127 : decode cX12_count 127 = .ok (.bipush 6, 2) := by decide +kernel
theorem dX12_count_129 : decode cX12_count 129 = .ok (.if_icmp .ne 10, 3) := by decide +kernel
theorem dX12_count_132 : decode cX12_count 132 = .ok (.aload_n 0, 1) := by decide +kernel
theorem dX12_count_133 : decode cX12_count 133 = .ok (.getfield 206, 3) := by decide +kernel
theorem dX12_count_136 : decode cX12_count 136 = .ok (.goto 7, 3) := by decide +kernel
theorem dX12_count_139 : decode cX12_count 139 = .ok (.aload_n 0, 1) := by decide +kernel
theorem dX12_count_140 : decode cX12_count 140 = .ok (.getfield 214, 3) := by decide +kernel
theorem dX12_count_143 : decode cX12_count 143 = .ok (.ireturn, 1) := by decide +kernel
def F_X12_count_b48 (N : Nat) (rc27 : Int32 → Int32 → PH → Option (Int32 × PH)) (x3 : Int32) (s0 : Int32) (s1 : Int32) (h : PH) : Option (Int32 × PH) :=
  ib (s1 + s0) fun v1 =>
  ib (x3 + (1 : Int32)) fun v2 =>
  rc27 v1 v2 h
set_option maxRecDepth 20000 in
set_option maxHeartbeats 4000000 in
theorem T_X12_count_b48 {X : CT} (C : CX X 154 cX12_count 4 RX12 (some .int) 7 160) {r0 : Int32} {h0 : PH} {N : Nat} {rc27 : Int32 → Int32 → PH → Option (Int32 × PH)} (hr27 : ∀ (x2 : Int32) (x3 : Int32) (h : PH), rc27 x2 x3 h = some (r0, h0) → V X (QI X r0 h0) h 27 [some (.ref 103), none, some (.int x2), some (.int x3)] []) : ∀ (x3 : Int32) (s0 : Int32) (s1 : Int32) (h : PH), F_X12_count_b48 N rc27 x3 s0 s1 h = some (r0, h0) → V X (QI X r0 h0) h 48 [some (.ref 103), none, none, some (.int x3)] [.int s0, .int s1] := by
  intro x3 s0 s1 h hyp
  unfold F_X12_count_b48 at hyp
  refine V_iadd (pc := 48) C dX12_count_48 ?_
  obtain ⟨v1, ev1, hyp⟩ := ib_n hyp
  refine V_topI ev1 ?_
  refine V_istore_n (pc := 49) C dX12_count_49 (by decide) rfl ?_
  obtain ⟨v2, ev2, hyp⟩ := ib_n hyp
  refine V_iinc (pc := 50) C dX12_count_50 (v := v2) rfl (by rw [ev2]; rfl) (by decide) rfl ?_
  refine V_goto (pc := 53) C dX12_count_53 (tgt := 27) (by decide) ?_
  refine V_weak (lv' := [some (.ref 103), none, some (.int v1), some (.int v2)]) (lvle_s (lvle_n (lvle_s (lvle_s lvle_0)))) ?_
  exact hr27 v1 v2 h hyp
def F_X12_count_b27 (N : Nat) : Nat → Int32 → Int32 → PH → Option (Int32 × PH)
  | 0, _, _, _ => none
  | n + 1, x2, x3, h =>
    if (25 : Int32) ≤ x3 then
      some (x2, h)
    else
      if inb x3 26 = true then
      if (h.1 105 x3.toNatClampNeg) = 0 then
        F_X12_count_b48 N (F_X12_count_b27 N n) x3 (0 : Int32) x2 h
      else
        F_X12_count_b48 N (F_X12_count_b27 N n) x3 (1 : Int32) x2 h
      else none
set_option maxRecDepth 20000 in
set_option maxHeartbeats 4000000 in
theorem T_X12_count_b27 {X : CT} (C : CX X 154 cX12_count 4 RX12 (some .int) 7 160) {r0 : Int32} {h0 : PH} {N : Nat} : ∀ (n : Nat) (x2 : Int32) (x3 : Int32) (h : PH), F_X12_count_b27 N n x2 x3 h = some (r0, h0) → V X (QI X r0 h0) h 27 [some (.ref 103), none, some (.int x2), some (.int x3)] [] := by
  intro n
  induction n with
  | zero =>
    intro x2 x3 h hyp
    cases hyp
  | succ n ih =>
    intro x2 x3 h hyp
    unfold F_X12_count_b27 at hyp
    refine V_iload_n (pc := 27) C dX12_count_27 rfl ?_
    refine V_bipush (pc := 28) C dX12_count_28 (v := 25) (by decide) ?_
    refine V_icmp_ge (pc := 30) C dX12_count_30 (tgt := 56) (by decide) (fun q1 => ?_) (fun q1 => ?_)
    · replace hyp := (if_pos q1).symm.trans hyp
      refine V_iload_n (pc := 56) C dX12_count_56 rfl ?_
      cases hyp
      exact V_iret C dX12_count_57
    · replace hyp := (if_neg q1).symm.trans hyp
      refine V_iload_n (pc := 33) C dX12_count_33 rfl ?_
      refine V_aload_n (pc := 34) C dX12_count_34 rfl ?_
      refine V_getR (pc := 35) C dX12_count_35 lf_X12_17 fk_103_11 ?_
      refine V_iload_n (pc := 38) C dX12_count_38 rfl ?_
      obtain ⟨g2, hyp⟩ := gd_n hyp
      refine V_zald (pc := 39) C dX12_count_39 ak_105 g2 ?_
      refine V_if_eq (pc := 40) C dX12_count_40 (tgt := 47) (by decide) (fun q3 => ?_) (fun q3 => ?_)
      · replace hyp := (if_pos q3).symm.trans hyp
        refine V_iconst (pc := 47) C dX12_count_47 (v := 0) (by decide) ?_
        refine V_weak (lv' := [some (.ref 103), none, none, some (.int x3)]) (lvle_s (lvle_n (lvle_n (lvle_s lvle_0)))) ?_
        exact (T_X12_count_b48 C ih) x3 (0 : Int32) x2 h hyp
      · replace hyp := (if_neg q3).symm.trans hyp
        refine V_iconst (pc := 43) C dX12_count_43 (v := 1) (by decide) ?_
        refine V_goto (pc := 44) C dX12_count_44 (tgt := 48) (by decide) ?_
        refine V_weak (lv' := [some (.ref 103), none, none, some (.int x3)]) (lvle_s (lvle_n (lvle_n (lvle_s lvle_0)))) ?_
        exact (T_X12_count_b48 C ih) x3 (1 : Int32) x2 h hyp
def F_X12_count_b67 (N : Nat) (x1 : Int32) (h : PH) : Option (Int32 × PH) :=
  if x1 = 0 then
    some (h.1 103 1, h)
  else
    if x1 = (2 : Int32) then
      some (h.1 103 38, h)
    else
      if x1 = (3 : Int32) then
        some (h.1 103 53, h)
      else
        if x1 = (4 : Int32) then
          some (h.1 103 57, h)
        else
          if x1 = (5 : Int32) then
            some (h.1 103 61, h)
          else
            if x1 = (6 : Int32) then
              some (h.1 103 75, h)
            else
              some (h.1 103 2, h)
set_option maxRecDepth 20000 in
set_option maxHeartbeats 4000000 in
theorem T_X12_count_b67 {X : CT} (C : CX X 154 cX12_count 4 RX12 (some .int) 7 160) {r0 : Int32} {h0 : PH} {N : Nat} : ∀ (x1 : Int32) (h : PH), F_X12_count_b67 N x1 h = some (r0, h0) → V X (QI X r0 h0) h 67 [some (.ref 103), some (.int x1), none, none] [] := by
  intro x1 h hyp
  unfold F_X12_count_b67 at hyp
  refine V_iload_n (pc := 67) C dX12_count_67 rfl ?_
  refine V_if_ne (pc := 68) C dX12_count_68 (tgt := 78) (by decide) (fun q1 => ?_) (fun q1 => ?_)
  · replace hyp := (if_neg q1).symm.trans hyp
    refine V_iload_n (pc := 78) C dX12_count_78 rfl ?_
    refine V_iconst (pc := 79) C dX12_count_79 (v := 2) (by decide) ?_
    refine V_icmp_ne (pc := 80) C dX12_count_80 (tgt := 90) (by decide) (fun q2 => ?_) (fun q2 => ?_)
    · replace hyp := (if_neg q2).symm.trans hyp
      refine V_iload_n (pc := 90) C dX12_count_90 rfl ?_
      refine V_iconst (pc := 91) C dX12_count_91 (v := 3) (by decide) ?_
      refine V_icmp_ne (pc := 92) C dX12_count_92 (tgt := 102) (by decide) (fun q3 => ?_) (fun q3 => ?_)
      · replace hyp := (if_neg q3).symm.trans hyp
        refine V_iload_n (pc := 102) C dX12_count_102 rfl ?_
        refine V_iconst (pc := 103) C dX12_count_103 (v := 4) (by decide) ?_
        refine V_icmp_ne (pc := 104) C dX12_count_104 (tgt := 114) (by decide) (fun q4 => ?_) (fun q4 => ?_)
        · replace hyp := (if_neg q4).symm.trans hyp
          refine V_iload_n (pc := 114) C dX12_count_114 rfl ?_
          refine V_iconst (pc := 115) C dX12_count_115 (v := 5) (by decide) ?_
          refine V_icmp_ne (pc := 116) C dX12_count_116 (tgt := 126) (by decide) (fun q5 => ?_) (fun q5 => ?_)
          · replace hyp := (if_neg q5).symm.trans hyp
            refine V_iload_n (pc := 126) C dX12_count_126 rfl ?_
            refine V_bipush (pc := 127) C dX12_count_127 (v := 6) (by decide) ?_
            refine V_icmp_ne (pc := 129) C dX12_count_129 (tgt := 139) (by decide) (fun q6 => ?_) (fun q6 => ?_)
            · replace hyp := (if_neg q6).symm.trans hyp
              refine V_aload_n (pc := 139) C dX12_count_139 rfl ?_
              refine V_getI (pc := 140) C dX12_count_140 lf_X12_214 fk_103_2 ?_
              cases hyp
              exact V_iret C dX12_count_143
            · replace hyp := (if_pos q6).symm.trans hyp
              refine V_aload_n (pc := 132) C dX12_count_132 rfl ?_
              refine V_getI (pc := 133) C dX12_count_133 lf_X12_206 fk_103_75 ?_
              refine V_goto (pc := 136) C dX12_count_136 (tgt := 143) (by decide) ?_
              cases hyp
              exact V_iret C dX12_count_143
          · replace hyp := (if_pos q5).symm.trans hyp
            refine V_aload_n (pc := 119) C dX12_count_119 rfl ?_
            refine V_getI (pc := 120) C dX12_count_120 lf_X12_427 fk_103_61 ?_
            refine V_goto (pc := 123) C dX12_count_123 (tgt := 143) (by decide) ?_
            cases hyp
            exact V_iret C dX12_count_143
        · replace hyp := (if_pos q4).symm.trans hyp
          refine V_aload_n (pc := 107) C dX12_count_107 rfl ?_
          refine V_getI (pc := 108) C dX12_count_108 lf_X12_424 fk_103_57 ?_
          refine V_goto (pc := 111) C dX12_count_111 (tgt := 143) (by decide) ?_
          cases hyp
          exact V_iret C dX12_count_143
      · replace hyp := (if_pos q3).symm.trans hyp
        refine V_aload_n (pc := 95) C dX12_count_95 rfl ?_
        refine V_getI (pc := 96) C dX12_count_96 lf_X12_111 fk_103_53 ?_
        refine V_goto (pc := 99) C dX12_count_99 (tgt := 143) (by decide) ?_
        cases hyp
        exact V_iret C dX12_count_143
    · replace hyp := (if_pos q2).symm.trans hyp
      refine V_aload_n (pc := 83) C dX12_count_83 rfl ?_
      refine V_getI (pc := 84) C dX12_count_84 lf_X12_386 fk_103_38 ?_
      refine V_goto (pc := 87) C dX12_count_87 (tgt := 143) (by decide) ?_
      cases hyp
      exact V_iret C dX12_count_143
  · replace hyp := (if_pos q1).symm.trans hyp
    refine V_aload_n (pc := 71) C dX12_count_71 rfl ?_
    refine V_getI (pc := 72) C dX12_count_72 lf_X12_7 fk_103_1 ?_
    refine V_goto (pc := 75) C dX12_count_75 (tgt := 143) (by decide) ?_
    cases hyp
    exact V_iret C dX12_count_143
def F_X12_count (N : Nat) (a1 : Int32) (h : PH) : Option (Int32 × PH) :=
  hb (hs h 103 0 (0 : Int32)) fun h1 =>
  bI (F_X12_within a1 (0 : Int32) (7 : Int32) h1) fun r2 h3 =>
  if r2 = 0 then
    some ((-1 : Int32), h3)
  else
    if a1 = (1 : Int32) then
      F_X12_count_b27 N N (0 : Int32) (19 : Int32) h3
    else
      if a1 = (2 : Int32) then
        bV (F_X12_goesThrough N  h3) fun h8 =>
        F_X12_count_b67 N a1 h8
      else
        F_X12_count_b67 N a1 h3
set_option maxRecDepth 20000 in
set_option maxHeartbeats 4000000 in
theorem M_X12_count (E : EV) {N : Nat} {a1 : Int32} {r : Int32} {h h2 : PH} (hyp : F_X12_count N a1 h = some (r, h2)) : MI E 154 yX12_count cX12_count 4 (some .int) 7 160 [.ref 103, .int a1] h r h2 := by
  refine MI.of 2 (by decide) rfl (fun X e1 C => ?_)
  subst e1
  replace C : CX X 154 cX12_count 4 RX12 (some .int) 7 160 := C
  show V X _ h 0 [some (.ref 103), some (.int a1), none, none] []
  unfold F_X12_count at hyp
  refine V_aload_n (pc := 0) C dX12_count_0 rfl ?_
  refine V_iconst (pc := 1) C dX12_count_1 (v := 0) (by decide) ?_
  obtain ⟨h1, eh1, hyp⟩ := hb_n hyp
  refine V_putI (pc := 2) C dX12_count_2 lf_X12_180 fk_103_0 rfl rfl eh1 ?_
  refine V_iload_n (pc := 5) C dX12_count_5 rfl ?_
  refine V_iconst (pc := 6) C dX12_count_6 (v := 0) (by decide) ?_
  refine V_bipush (pc := 7) C dX12_count_7 (v := 7) (by decide) ?_
  obtain ⟨r2, h3, eh3, hyp⟩ := bI_n hyp
  refine V_statI (pc := 9) C dX12_count_9 lm_X12_183 ms_X12_within (M_X12_within _ eh3) rfl pd_X12_within (by decide) (by decide) (by decide) (As := [.int a1, .int (0 : Int32), .int (7 : Int32)]) (rest := []) rfl (Nat.le_of_ble_eq_true rfl) ?_
  refine V_if_ne (pc := 12) C dX12_count_12 (tgt := 17) (by decide) (fun q4 => ?_) (fun q4 => ?_)
  · replace hyp := (if_neg q4).symm.trans hyp
    refine V_iload_n (pc := 17) C dX12_count_17 rfl ?_
    refine V_iconst (pc := 18) C dX12_count_18 (v := 1) (by decide) ?_
    refine V_icmp_ne (pc := 19) C dX12_count_19 (tgt := 58) (by decide) (fun q5 => ?_) (fun q5 => ?_)
    · replace hyp := (if_neg q5).symm.trans hyp
      refine V_iload_n (pc := 58) C dX12_count_58 rfl ?_
      refine V_iconst (pc := 59) C dX12_count_59 (v := 2) (by decide) ?_
      refine V_icmp_ne (pc := 60) C dX12_count_60 (tgt := 67) (by decide) (fun q6 => ?_) (fun q6 => ?_)
      · replace hyp := (if_neg q6).symm.trans hyp
        refine V_weak (lv' := [some (.ref 103), some (.int a1), none, none]) (lvle_s (lvle_s (lvle_n (lvle_n lvle_0)))) ?_
        exact (T_X12_count_b67 C) a1 h3 hyp
      · replace hyp := (if_pos q6).symm.trans hyp
        refine V_aload_n (pc := 63) C dX12_count_63 rfl ?_
        obtain ⟨h8, eh8, hyp⟩ := bV_n hyp
        refine V_callV (pc := 64) C dX12_count_64 lm_X12_393 mk_X12_goesThrough ok_103 rfl (M_X12_goesThrough _ eh8) rfl pd_X12_goesThrough (by decide) (by decide) (by decide) (As := []) (rest := []) rfl (Nat.le_of_ble_eq_true rfl) ?_
        refine V_weak (lv' := [some (.ref 103), some (.int a1), none, none]) (lvle_s (lvle_s (lvle_n (lvle_n lvle_0)))) ?_
        exact (T_X12_count_b67 C) a1 h8 hyp
    · replace hyp := (if_pos q5).symm.trans hyp
      refine V_iconst (pc := 22) C dX12_count_22 (v := 0) (by decide) ?_
      refine V_istore_n (pc := 23) C dX12_count_23 (by decide) rfl ?_
      refine V_bipush (pc := 24) C dX12_count_24 (v := 19) (by decide) ?_
      refine V_istore_n (pc := 26) C dX12_count_26 (by decide) rfl ?_
      refine V_weak (lv' := [some (.ref 103), none, some (.int (0 : Int32)), some (.int (19 : Int32))]) (lvle_s (lvle_n (lvle_s (lvle_s lvle_0)))) ?_
      exact (T_X12_count_b27 C) N (0 : Int32) (19 : Int32) h3 hyp
  · replace hyp := (if_pos q4).symm.trans hyp
    refine V_iconst (pc := 15) C dX12_count_15 (v := -1) (by decide) ?_
    cases hyp
    exact V_iret C dX12_count_16
