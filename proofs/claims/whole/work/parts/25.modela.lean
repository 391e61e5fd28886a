theorem dX12_thrown_0 : decode cX12_thrown 0 = .ok (.aload_n 0, 1) := by decide +kernel
theorem dX12_thrown_1 : decode cX12_thrown 1 = .ok (.getfield 180, 3) := by decide +kernel
theorem dX12_thrown_4 : decode cX12_thrown 4 = .ok (.ireturn, 1) := by decide +kernel
def F_X12_thrown (h : PH) : Option (Int32 × PH) :=
  some (h.1 103 0, h)
set_option maxRecDepth 20000 in
set_option maxHeartbeats 4000000 in
theorem M_X12_thrown (E : EV) {r : Int32} {h h2 : PH} (hyp : F_X12_thrown  h = some (r, h2)) : MI E 154 yX12_thrown cX12_thrown 1 (some .int) 0 0 [.ref 103] h r h2 := by
  refine MI.of 0 (by decide) rfl (fun X e1 C => ?_)
  subst e1
  replace C : CX X 154 cX12_thrown 1 RX12 (some .int) 0 0 := C
  show V X _ h 0 [some (.ref 103)] []
  unfold F_X12_thrown at hyp
  refine V_aload_n (pc := 0) C dX12_thrown_0 rfl ?_
  refine V_getI (pc := 1) C dX12_thrown_1 lf_X12_180 fk_103_0 ?_
  cases hyp
  exact V_iret C dX12_thrown_4
theorem dX12_within_0 : decode cX12_within 0 = .ok (.iload_n 0, 1) := by decide +kernel
theorem dX12_within_1 : decode cX12_within 1 = .ok (.iload_n 1, 1) := by decide +kernel
theorem dX12_within_2 : decode cX12_within 2 = .ok (.if_icmp .lt 12, 3) := by decide +kernel
theorem dX12_within_5 : decode cX12_within 5 = .ok (.iload_n 0, 1) := by decide +kernel
theorem dX12_within_6 : decode cX12_within 6 = .ok (.iload_n 2, 1) := by decide +kernel
theorem dX12_within_7 : decode cX12_within 7 = .ok (.if_icmp .gt 7, 3) := by decide +kernel
theorem dX12_within_10 : decode cX12_within 10 = .ok (.iconst 1, 1) := by decide +kernel
theorem dX12_within_11 : decode cX12_within 11 = .ok (.goto 4, 3) := by decide +kernel
theorem dX12_within_14 : decode cX12_within 14 = .ok (.iconst 0, 1) := by decide +kernel
theorem dX12_within_15 : decode cX12_within 15 = .ok (.ireturn, 1) := by decide +kernel
def F_X12_within_b14 (h : PH) : Option (Int32 × PH) :=
  some ((0 : Int32), h)
set_option maxRecDepth 20000 in
set_option maxHeartbeats 4000000 in
theorem T_X12_within_b14 {X : CT} (C : CX X 154 cX12_within 3 RX12 (some .boolean) 0 0) {r0 : Int32} {h0 : PH} : ∀ (h : PH), F_X12_within_b14  h = some (r0, h0) → V X (QI X r0 h0) h 14 [none, none, none] [] := by
  intro  h hyp
  unfold F_X12_within_b14 at hyp
  refine V_iconst (pc := 14) C dX12_within_14 (v := 0) (by decide) ?_
  cases hyp
  exact V_zret C dX12_within_15 rfl
def F_X12_within (a1 : Int32) (a2 : Int32) (a3 : Int32) (h : PH) : Option (Int32 × PH) :=
  if a1 < a2 then
    F_X12_within_b14  h
  else
    if a3 < a1 then
      F_X12_within_b14  h
    else
      some ((1 : Int32), h)
set_option maxRecDepth 20000 in
set_option maxHeartbeats 4000000 in
theorem M_X12_within (E : EV) {a1 : Int32} {a2 : Int32} {a3 : Int32} {r : Int32} {h h2 : PH} (hyp : F_X12_within a1 a2 a3 h = some (r, h2)) : MI E 154 yX12_within cX12_within 3 (some .boolean) 0 0 [.int a1, .int a2, .int a3] h r h2 := by
  refine MI.of 0 (by decide) rfl (fun X e1 C => ?_)
  subst e1
  replace C : CX X 154 cX12_within 3 RX12 (some .boolean) 0 0 := C
  show V X _ h 0 [some (.int a1), some (.int a2), some (.int a3)] []
  unfold F_X12_within at hyp
  refine V_iload_n (pc := 0) C dX12_within_0 rfl ?_
  refine V_iload_n (pc := 1) C dX12_within_1 rfl ?_
  refine V_icmp_lt (pc := 2) C dX12_within_2 (tgt := 14) (by decide) (fun q1 => ?_) (fun q1 => ?_)
  · replace hyp := (if_pos q1).symm.trans hyp
    refine V_weak (lv' := [none, none, none]) (lvle_n (lvle_n (lvle_n lvle_0))) ?_
    exact (T_X12_within_b14 C) h hyp
  · replace hyp := (if_neg q1).symm.trans hyp
    refine V_iload_n (pc := 5) C dX12_within_5 rfl ?_
    refine V_iload_n (pc := 6) C dX12_within_6 rfl ?_
    refine V_icmp_gt (pc := 7) C dX12_within_7 (tgt := 14) (by decide) (fun q2 => ?_) (fun q2 => ?_)
    · replace hyp := (if_pos q2).symm.trans hyp
      refine V_weak (lv' := [none, none, none]) (lvle_n (lvle_n (lvle_n lvle_0))) ?_
      exact (T_X12_within_b14 C) h hyp
    · replace hyp := (if_neg q2).symm.trans hyp
      refine V_iconst (pc := 10) C dX12_within_10 (v := 1) (by decide) ?_
      refine V_goto (pc := 11) C dX12_within_11 (tgt := 15) (by decide) ?_
      cases hyp
      exact V_zret C dX12_within_15 rfl
theorem dX12_isFloor_0 : decode cX12_isFloor 0 = .ok (.iload_n 1, 1) := by decide +kernel
theorem dX12_isFloor_1 : decode cX12_isFloor 1 = .ok (.ifCond .lt 15, 3) := by decide +kernel
theorem dX12_isFloor_4 : decode cX12_isFloor 4 = .ok (.iload_n 1, 1) := by decide +kernel
theorem dX12_isFloor_5 : decode cX12_isFloor 5 = .ok (.aload_n 0, 1) := by decide +kernel
theorem dX12_isFloor_6 : decode cX12_isFloor 6 = .ok (.getfield 7, 3) := by decide +kernel
theorem dX12_isFloor_9 : decode cX12_isFloor 9 = .ok (.if_icmp .ge 7, 3) := by decide +kernel
theorem dX12_isFloor_12 : decode cX12_isFloor 12 = .ok (.iconst 1, 1) := by decide +kernel
theorem dX12_isFloor_13 : decode cX12_isFloor 13 = .ok (.goto 4, 3) := by decide +kernel
theorem dX12_isFloor_16 : decode cX12_isFloor 16 = .ok (.iconst 0, 1) := by decide +kernel
theorem dX12_isFloor_17 : decode cX12_isFloor 17 = .ok (.ireturn, 1) := by decide +kernel
def F_X12_isFloor_b16 (h : PH) : Option (Int32 × PH) :=
  some ((0 : Int32), h)
set_option maxRecDepth 20000 in
set_option maxHeartbeats 4000000 in
theorem T_X12_isFloor_b16 {X : CT} (C : CX X 154 cX12_isFloor 2 RX12 (some .boolean) 0 0) {r0 : Int32} {h0 : PH} : ∀ (h : PH), F_X12_isFloor_b16  h = some (r0, h0) → V X (QI X r0 h0) h 16 [none, none] [] := by
  intro  h hyp
  unfold F_X12_isFloor_b16 at hyp
  refine V_iconst (pc := 16) C dX12_isFloor_16 (v := 0) (by decide) ?_
  cases hyp
  exact V_zret C dX12_isFloor_17 rfl
def F_X12_isFloor (a1 : Int32) (h : PH) : Option (Int32 × PH) :=
  if a1 < 0 then
    F_X12_isFloor_b16  h
  else
    if (h.1 103 1) ≤ a1 then
      F_X12_isFloor_b16  h
    else
      some ((1 : Int32), h)
set_option maxRecDepth 20000 in
set_option maxHeartbeats 4000000 in
theorem M_X12_isFloor (E : EV) {a1 : Int32} {r : Int32} {h h2 : PH} (hyp : F_X12_isFloor a1 h = some (r, h2)) : MI E 154 yX12_isFloor cX12_isFloor 2 (some .boolean) 0 0 [.ref 103, .int a1] h r h2 := by
  refine MI.of 0 (by decide) rfl (fun X e1 C => ?_)
  subst e1
  replace C : CX X 154 cX12_isFloor 2 RX12 (some .boolean) 0 0 := C
  show V X _ h 0 [some (.ref 103), some (.int a1)] []
  unfold F_X12_isFloor at hyp
  refine V_iload_n (pc := 0) C dX12_isFloor_0 rfl ?_
  refine V_if_lt (pc := 1) C dX12_isFloor_1 (tgt := 16) (by decide) (fun q1 => ?_) (fun q1 => ?_)
  · replace hyp := (if_pos q1).symm.trans hyp
    refine V_weak (lv' := [none, none]) (lvle_n (lvle_n lvle_0)) ?_
    exact (T_X12_isFloor_b16 C) h hyp
  · replace hyp := (if_neg q1).symm.trans hyp
    refine V_iload_n (pc := 4) C dX12_isFloor_4 rfl ?_
    refine V_aload_n (pc := 5) C dX12_isFloor_5 rfl ?_
    refine V_getI (pc := 6) C dX12_isFloor_6 lf_X12_7 fk_103_1 ?_
    refine V_icmp_ge (pc := 9) C dX12_isFloor_9 (tgt := 16) (by decide) (fun q2 => ?_) (fun q2 => ?_)
    · replace hyp := (if_pos q2).symm.trans hyp
      refine V_weak (lv' := [none, none]) (lvle_n (lvle_n lvle_0)) ?_
      exact (T_X12_isFloor_b16 C) h hyp
    · replace hyp := (if_neg q2).symm.trans hyp
      refine V_iconst (pc := 12) C dX12_isFloor_12 (v := 1) (by decide) ?_
      refine V_goto (pc := 13) C dX12_isFloor_13 (tgt := 17) (by decide) ?_
      cases hyp
      exact V_zret C dX12_isFloor_17 rfl
theorem dX12_begins_0 : decode cX12_begins 0 = .ok (.aload_n 0, 1) := by decide +kernel
theorem dX12_begins_1 : decode cX12_begins 1 = .ok (.iconst 0, 1) := by decide +kernel
theorem dX12_begins_2 : decode cX12_begins 2 = .ok (.putfield 348, 3) := by decide +kernel
theorem dX12_begins_5 : decode cX12_begins 5 = .ok (.aload_n 0, 1) := by decide +kernel
theorem dX12_begins_6 : decode cX12_begins 6 = .ok (.iconst 0, 1) := by decide +kernel
theorem dX12_begins_7 : decode cX12_begins 7 = .ok (.putfield 351, 3) := by decide +kernel
theorem dX12_begins_10 : decode cX12_begins 10 = .ok (.aload_n 0, 1) := by decide +kernel
theorem dX12_begins_11 : decode cX12_begins 11 = .ok (.iconst 0, 1) := by decide +kernel
theorem dX12_begins_12 : decode cX12_begins 12 = .ok (.putfield 354, 3) := by decide +kernel
theorem dX12_begins_15 : decode cX12_begins 15 = .ok (.return_, 1) := by decide +kernel
def F_X12_begins (h : PH) : Option PH :=
  hb (hs h 103 33 (0 : Int32)) fun h1 =>
  hb (hs h1 103 34 (0 : Int32)) fun h2 =>
  hb (hs h2 103 35 (0 : Int32)) fun h3 =>
  some h3
set_option maxRecDepth 20000 in
set_option maxHeartbeats 4000000 in
theorem M_X12_begins (E : EV) {h h2 : PH} (hyp : F_X12_begins  h = some h2) : MV E 154 yX12_begins cX12_begins 1 none 0 0 [.ref 103] h h2 := by
  refine MV.of 0 (by decide) rfl (fun X e1 C => ?_)
  subst e1
  replace C : CX X 154 cX12_begins 1 RX12 none 0 0 := C
  show V X _ h 0 [some (.ref 103)] []
  unfold F_X12_begins at hyp
  refine V_aload_n (pc := 0) C dX12_begins_0 rfl ?_
  refine V_iconst (pc := 1) C dX12_begins_1 (v := 0) (by decide) ?_
  obtain ⟨h1, eh1, hyp⟩ := hb_n hyp
  refine V_putI (pc := 2) C dX12_begins_2 lf_X12_348 fk_103_33 rfl rfl eh1 ?_
  refine V_aload_n (pc := 5) C dX12_begins_5 rfl ?_
  refine V_iconst (pc := 6) C dX12_begins_6 (v := 0) (by decide) ?_
  obtain ⟨h2, eh2, hyp⟩ := hb_n hyp
  refine V_putI (pc := 7) C dX12_begins_7 lf_X12_351 fk_103_34 rfl rfl eh2 ?_
  refine V_aload_n (pc := 10) C dX12_begins_10 rfl ?_
  refine V_iconst (pc := 11) C dX12_begins_11 (v := 0) (by decide) ?_
  obtain ⟨h3, eh3, hyp⟩ := hb_n hyp
  refine V_putI (pc := 12) C dX12_begins_12 lf_X12_354 fk_103_35 rfl rfl eh3 ?_
  cases hyp
  exact V_vret C dX12_begins_15
theorem dX12_clears_0 : decode cX12_clears 0 = .ok (.aload_n 0, 1) := by decide +kernel
theorem dX12_clears_1 : decode cX12_clears 1 = .ok (.iconst 0, 1) := by decide +kernel
theorem dX12_clears_2 : decode cX12_clears 2 = .ok (.putfield 424, 3) := by decide +kernel
theorem dX12_clears_5 : decode cX12_clears 5 = .ok (.aload_n 0, 1) := by decide +kernel
theorem dX12_clears_6 : decode cX12_clears 6 = .ok (.iconst 0, 1) := by decide +kernel
theorem dX12_clears_7 : decode cX12_clears 7 = .ok (.putfield 427, 3) := by decide +kernel
theorem dX12_clears_10 : decode cX12_clears 10 = .ok (.aload_n 0, 1) := by decide +kernel
theorem dX12_clears_11 : decode cX12_clears 11 = .ok (.iconst (-1), 1) := by decide +kernel
theorem dX12_clears_12 : decode cX12_clears 12 = .ok (.putfield 138, 3) := by decide +kernel
theorem dX12_clears_15 : decode cX12_clears 15 = .ok (.return_, 1) := by decide +kernel
def F_X12_clears (h : PH) : Option PH :=
  hb (hs h 103 57 (0 : Int32)) fun h1 =>
  hb (hs h1 103 61 (0 : Int32)) fun h2 =>
  hb (hs h2 103 65 (-1 : Int32)) fun h3 =>
  some h3
set_option maxRecDepth 20000 in
set_option maxHeartbeats 4000000 in
theorem M_X12_clears (E : EV) {h h2 : PH} (hyp : F_X12_clears  h = some h2) : MV E 154 yX12_clears cX12_clears 1 none 0 0 [.ref 103] h h2 := by
  refine MV.of 0 (by decide) rfl (fun X e1 C => ?_)
  subst e1
  replace C : CX X 154 cX12_clears 1 RX12 none 0 0 := C
  show V X _ h 0 [some (.ref 103)] []
  unfold F_X12_clears at hyp
  refine V_aload_n (pc := 0) C dX12_clears_0 rfl ?_
  refine V_iconst (pc := 1) C dX12_clears_1 (v := 0) (by decide) ?_
  obtain ⟨h1, eh1, hyp⟩ := hb_n hyp
  refine V_putI (pc := 2) C dX12_clears_2 lf_X12_424 fk_103_57 rfl rfl eh1 ?_
  refine V_aload_n (pc := 5) C dX12_clears_5 rfl ?_
  refine V_iconst (pc := 6) C dX12_clears_6 (v := 0) (by decide) ?_
  obtain ⟨h2, eh2, hyp⟩ := hb_n hyp
  refine V_putI (pc := 7) C dX12_clears_7 lf_X12_427 fk_103_61 rfl rfl eh2 ?_
  refine V_aload_n (pc := 10) C dX12_clears_10 rfl ?_
  refine V_iconst (pc := 11) C dX12_clears_11 (v := -1) (by decide) ?_
  obtain ⟨h3, eh3, hyp⟩ := hb_n hyp
  refine V_putI (pc := 12) C dX12_clears_12 lf_X12_138 fk_103_65 rfl rfl eh3 ?_
  cases hyp
  exact V_vret C dX12_clears_15
theorem dX12_floors_0 : decode cX12_floors 0 = .ok (.aload_n 0, 1) := by decide +kernel
theorem dX12_floors_1 : decode cX12_floors 1 = .ok (.iconst 0, 1) := by decide +kernel
theorem dX12_floors_2 : decode cX12_floors 2 = .ok (.putfield 180, 3) := by decide +kernel
theorem dX12_floors_5 : decode cX12_floors 5 = .ok (.iload_n 1, 1) := by decide +kernel
theorem dX12_floors_6 : decode cX12_floors 6 = .ok (.iconst 2, 1) := by decide +kernel
theorem dX12_floors_7 : decode cX12_floors 7 = .ok (.bipush 6, 2) := by decide +kernel
theorem dX12_floors_9 : decode cX12_floors 9 = .ok (.invokestatic 183, 3) := by decide +kernel
theorem dX12_floors_12 : decode cX12_floors 12 = .ok (.ifCond .ne 5, 3) := by decide +kernel
theorem dX12_floors_15 : decode cX12_floors 15 = .ok (.iconst 0, 1) := by decide +kernel
theorem dX12_floors_16 : decode cX12_floors 16 = .ok (.ireturn, 1) := by decide +kernel
theorem dX12_floors_17 : decode cX12_floors 17 = .ok (.aload_n 0, 1) := by decide +kernel
theorem dX12_floors_18 : decode cX12_floors 18 = .ok (.iload_n 1, 1) := by decide +kernel
theorem dX12_floors_19 : decode cX12_floors 19 = .ok (.putfield 7, 3) := by decide +kernel
theorem dX12_floors_22 : decode cX12_floors 22 = .ok (.iconst 0, 1) := by decide +kernel
theorem dX12_floors_23 : decode cX12_floors 23 = .ok (.istore_n 2, 1) := by decide +kernel
theorem dX12_floors_24 : decode cX12_floors 24 = .ok (.iload_n 2, 1) := by decide +kernel
theorem dX12_floors_25 : decode cX12_floors 25 = .ok (.bipush 25, 2) := by decide +kernel
theorem dX12_floors_27 : decode cX12_floors 27 = .ok (.if_icmp .ge 16, 3) := by decide +kernel
theorem dX12_floors_30 : decode cX12_floors 30 = .ok (.aload_n 0, 1) := by decide +kernel
theorem dX12_floors_31 : decode cX12_floors 31 = .ok (.getfield 17, 3) := by decide +kernel
theorem dX12_floors_34 : decode cX12_floors 34 = .ok (.iload_n 2, 1) := by decide +kernel
theorem dX12_floors_35 : decode cX12_floors 35 = .ok (.iconst 0, 1) := by decide +kernel
theorem dX12_floors_36 : decode cX12_floors 36 = .ok (.bastore, 1) := by decide +kernel
theorem dX12_floors_37 : decode cX12_floors 37 = .ok (.iinc 2 1, 3) := by decide +kernel
theorem dX12_floors_40 : decode cX12_floors 40 = .ok (.goto (-16), 3) := by decide +kernel
theorem dX12_floors_43 : decode cX12_floors 43 = .ok (.aload_n 0, 1) := by decide +kernel
theorem dX12_floors_44 : decode cX12_floors 44 = .ok (.iconst 0, 1) := by decide +kernel
theorem dX12_floors_45 : decode cX12_floors 45 = .ok (.putfield 187, 3) := by decide +kernel
theorem dX12_floors_48 : decode cX12_floors 48 = .ok (.aload_n 0, 1) := by decide +kernel
theorem dX12_floors_49 : decode cX12_floors 49 = .ok (.invokevirtual 191, 3) := by decide +kernel
theorem dX12_floors_52 : decode cX12_floors 52 = .ok (.aload_n 0, 1) := by decide +kernel
theorem dX12_floors_53 : decode cX12_floors 53 = .ok (.iconst 0, 1) := by decide +kernel
theorem dX12_floors_54 : decode cX12_floors 54 = .ok (.putfield 194, 3) := by decide +kernel
theorem dX12_floors_57 : decode cX12_floors 57 = .ok (.aload_n 0, 1) := by decide +kernel
theorem dX12_floors_58 : decode cX12_floors 58 = .ok (.iconst 0, 1) := by decide +kernel
theorem dX12_floors_59 : decode cX12_floors 59 = .ok (.putfield 197, 3) := by decide +kernel
theorem dX12_floors_62 : decode cX12_floors 62 = .ok (.aload_n 0, 1) := by decide +kernel
theorem dX12_floors_63 : decode cX12_floors 63 = .ok (.iconst 1, 1) := by decide +kernel
theorem dX12_floors_64 : decode cX12_floors 64 = .ok (.putfield 111, 3) := by decide +kernel
theorem dX12_floors_67 : decode cX12_floors 67 = .ok (.aload_n 0, 1) := by decide +kernel
theorem dX12_floors_68 : decode cX12_floors 68 = .ok (.iconst 4, 1) := by decide +kernel
theorem dX12_floors_69 : decode cX12_floors 69 = .ok (.putfield 114, 3) := by decide +kernel
theorem dX12_floors_72 : decode cX12_floors 72 = .ok (.aload_n 0, 1) := by decide +kernel
theorem dX12_floors_73 : decode cX12_floors 73 = .ok (.iconst 1, 1) := by decide +kernel
theorem dX12_floors_74 : decode cX12_floors 74 = .ok (.putfield 117, 3) := by decide +kernel
theorem dX12_floors_77 : decode cX12_floors 77 = .ok (.aload_n 0, 1) := by decide +kernel
theorem dX12_floors_78 : decode cX12_floors 78 = .ok (.iconst 0, 1) := by decide +kernel
theorem dX12_floors_79 : decode cX12_floors 79 = .ok (.putfield 200, 3) := by decide +kernel
theorem dX12_floors_82 : decode cX12_floors 82 = .ok (.aload_n 0, 1) := by decide +kernel
theorem dX12_floors_83 : decode cX12_floors 83 = .ok (.invokevirtual 203, 3) := by decide +kernel
theorem dX12_floors_86 : decode cX12_floors 86 = .ok (.aload_n 0, 1) := by decide +kernel
theorem dX12_floors_87 : decode cX12_floors 87 = .ok (.iconst 0, 1) := by decide +kernel
theorem dX12_floors_88 : decode cX12_floors 88 = .ok (.putfield 206, 3) := by decide +kernel
theorem dX12_floors_91 : decode cX12_floors 91 = .ok (.aload_n 0, 1) := by decide +kernel
theorem dX12_floors_92 : decode cX12_floors 92 = .ok (.iconst 0, 1) := by decide +kernel
theorem dX12_floors_93 : decode cX12_floors 93 = .ok (.putfield 209, 3) := by decide +kernel
theorem dX12_floors_96 : decode cX12_floors 96 = .ok (.aload_n 0, 1) := by decide +kernel
theorem dX12_floors_97 : decode cX12_floors 97 = .ok (.sipush 1000, 3) := by decide +kernel
theorem dX12_floors_100 : decode cX12_floors 100 = .ok (.putfield 174, 3) := by decide +kernel
theorem dX12_floors_103 : decode cX12_floors 103 = .ok (.aload_n 0, 1) := by decide +kernel
theorem dX12_floors_104 : decode cX12_floors 104 = .ok (.iconst 1, 1) := by decide +kernel
theorem dX12_floors_105 : decode cX12_floors 105 = .ok (.putfield 177, 3) := by decide +kernel
theorem dX12_floors_108 : decode cX12_floors 108 = .ok (.iconst 1, 1) := by decide +kernel
theorem dX12_floors_109 : decode cX12_floors 109 = .ok (.ireturn, 1) := by decide +kernel
def F_X12_floors_b43 (N : Nat) (h : PH) : Option (Int32 × PH) :=
  hb (hs h 103 20 (0 : Int32)) fun h1 =>
  bV (F_X12_begins  h1) fun h3 =>
  hb (hs h3 103 37 (0 : Int32)) fun h4 =>
  hb (hs h4 103 46 (0 : Int32)) fun h5 =>
  hb (hs h5 103 53 (1 : Int32)) fun h6 =>
  hb (hs h6 103 54 (4 : Int32)) fun h7 =>
  hb (hs h7 103 55 (1 : Int32)) fun h8 =>
  hb (hs h8 103 56 (0 : Int32)) fun h9 =>
  bV (F_X12_clears  h9) fun h11 =>
  hb (hs h11 103 75 (0 : Int32)) fun h12 =>
  hb (hs h12 103 79 (0 : Int32)) fun h13 =>
  hb (hs h13 103 80 (1000 : Int32)) fun h14 =>
  hb (hs h14 103 81 (1 : Int32)) fun h15 =>
  some ((1 : Int32), h15)
set_option maxRecDepth 20000 in
set_option maxHeartbeats 4000000 in
theorem T_X12_floors_b43 {X : CT} (C : CX X 154 cX12_floors 3 RX12 (some .boolean) 1 22) {r0 : Int32} {h0 : PH} {N : Nat} : ∀ (h : PH), F_X12_floors_b43 N  h = some (r0, h0) → V X (QI X r0 h0) h 43 [some (.ref 103), none, none] [] := by
  intro  h hyp
  unfold F_X12_floors_b43 at hyp
  refine V_aload_n (pc := 43) C dX12_floors_43 rfl ?_
  refine V_iconst (pc := 44) C dX12_floors_44 (v := 0) (by decide) ?_
  obtain ⟨h1, eh1, hyp⟩ := hb_n hyp
  refine V_putI (pc := 45) C dX12_floors_45 lf_X12_187 fk_103_20 rfl rfl eh1 ?_
  refine V_aload_n (pc := 48) C dX12_floors_48 rfl ?_
  obtain ⟨h3, eh3, hyp⟩ := bV_n hyp
  refine V_callV (pc := 49) C dX12_floors_49 lm_X12_191 mk_X12_begins ok_103 rfl (M_X12_begins _ eh3) rfl pd_X12_begins (by decide) (by decide) (by decide) (As := []) (rest := []) rfl (Nat.le_of_ble_eq_true rfl) ?_
  refine V_aload_n (pc := 52) C dX12_floors_52 rfl ?_
  refine V_iconst (pc := 53) C dX12_floors_53 (v := 0) (by decide) ?_
  obtain ⟨h4, eh4, hyp⟩ := hb_n hyp
  refine V_putI (pc := 54) C dX12_floors_54 lf_X12_194 fk_103_37 rfl rfl eh4 ?_
  refine V_aload_n (pc := 57) C dX12_floors_57 rfl ?_
  refine V_iconst (pc := 58) C dX12_floors_58 (v := 0) (by decide) ?_
  obtain ⟨h5, eh5, hyp⟩ := hb_n hyp
  refine V_putI (pc := 59) C dX12_floors_59 lf_X12_197 fk_103_46 rfl rfl eh5 ?_
  refine V_aload_n (pc := 62) C dX12_floors_62 rfl ?_
  refine V_iconst (pc := 63) C dX12_floors_63 (v := 1) (by decide) ?_
  obtain ⟨h6, eh6, hyp⟩ := hb_n hyp
  refine V_putI (pc := 64) C dX12_floors_64 lf_X12_111 fk_103_53 rfl rfl eh6 ?_
  refine V_aload_n (pc := 67) C dX12_floors_67 rfl ?_
  refine V_iconst (pc := 68) C dX12_floors_68 (v := 4) (by decide) ?_
  obtain ⟨h7, eh7, hyp⟩ := hb_n hyp
  refine V_putI (pc := 69) C dX12_floors_69 lf_X12_114 fk_103_54 rfl rfl eh7 ?_
  refine V_aload_n (pc := 72) C dX12_floors_72 rfl ?_
  refine V_iconst (pc := 73) C dX12_floors_73 (v := 1) (by decide) ?_
  obtain ⟨h8, eh8, hyp⟩ := hb_n hyp
  refine V_putI (pc := 74) C dX12_floors_74 lf_X12_117 fk_103_55 rfl rfl eh8 ?_
  refine V_aload_n (pc := 77) C dX12_floors_77 rfl ?_
  refine V_iconst (pc := 78) C dX12_floors_78 (v := 0) (by decide) ?_
  obtain ⟨h9, eh9, hyp⟩ := hb_n hyp
  refine V_putI (pc := 79) C dX12_floors_79 lf_X12_200 fk_103_56 rfl rfl eh9 ?_
  refine V_aload_n (pc := 82) C dX12_floors_82 rfl ?_
  obtain ⟨h11, eh11, hyp⟩ := bV_n hyp
  refine V_callV (pc := 83) C dX12_floors_83 lm_X12_203 mk_X12_clears ok_103 rfl (M_X12_clears _ eh11) rfl pd_X12_clears (by decide) (by decide) (by decide) (As := []) (rest := []) rfl (Nat.le_of_ble_eq_true rfl) ?_
  refine V_aload_n (pc := 86) C dX12_floors_86 rfl ?_
  refine V_iconst (pc := 87) C dX12_floors_87 (v := 0) (by decide) ?_
  obtain ⟨h12, eh12, hyp⟩ := hb_n hyp
  refine V_putI (pc := 88) C dX12_floors_88 lf_X12_206 fk_103_75 rfl rfl eh12 ?_
  refine V_aload_n (pc := 91) C dX12_floors_91 rfl ?_
  refine V_iconst (pc := 92) C dX12_floors_92 (v := 0) (by decide) ?_
  obtain ⟨h13, eh13, hyp⟩ := hb_n hyp
  refine V_putI (pc := 93) C dX12_floors_93 lf_X12_209 fk_103_79 rfl rfl eh13 ?_
  refine V_aload_n (pc := 96) C dX12_floors_96 rfl ?_
  refine V_sipush (pc := 97) C dX12_floors_97 (v := 1000) (by decide) ?_
  obtain ⟨h14, eh14, hyp⟩ := hb_n hyp
  refine V_putI (pc := 100) C dX12_floors_100 lf_X12_174 fk_103_80 rfl rfl eh14 ?_
  refine V_aload_n (pc := 103) C dX12_floors_103 rfl ?_
  refine V_iconst (pc := 104) C dX12_floors_104 (v := 1) (by decide) ?_
  obtain ⟨h15, eh15, hyp⟩ := hb_n hyp
  refine V_putI (pc := 105) C dX12_floors_105 lf_X12_177 fk_103_81 rfl rfl eh15 ?_
  refine V_iconst (pc := 108) C dX12_floors_108 (v := 1) (by decide) ?_
  cases hyp
  exact V_zret C dX12_floors_109 rfl
def F_X12_floors_b24 (N : Nat) : Nat → Int32 → PH → Option (Int32 × PH)
  | 0, _, _ => none
  | n + 1, x2, h =>
    if (25 : Int32) ≤ x2 then
      F_X12_floors_b43 N  h
    else
      if inb x2 26 = true then
      hb (hs h 105 x2.toNatClampNeg (vp_nar .boolean (0 : Int32))) fun h3 =>
      ib (x2 + (1 : Int32)) fun v4 =>
      F_X12_floors_b24 N n v4 h3
      else none
set_option maxRecDepth 20000 in
set_option maxHeartbeats 4000000 in
theorem T_X12_floors_b24 {X : CT} (C : CX X 154 cX12_floors 3 RX12 (some .boolean) 1 22) {r0 : Int32} {h0 : PH} {N : Nat} : ∀ (n : Nat) (x2 : Int32) (h : PH), F_X12_floors_b24 N n x2 h = some (r0, h0) → V X (QI X r0 h0) h 24 [some (.ref 103), none, some (.int x2)] [] := by
  intro n
  induction n with
  | zero =>
    intro x2 h hyp
    cases hyp
  | succ n ih =>
    intro x2 h hyp
    unfold F_X12_floors_b24 at hyp
    refine V_iload_n (pc := 24) C dX12_floors_24 rfl ?_
    refine V_bipush (pc := 25) C dX12_floors_25 (v := 25) (by decide) ?_
    refine V_icmp_ge (pc := 27) C dX12_floors_27 (tgt := 43) (by decide) (fun q1 => ?_) (fun q1 => ?_)
    · replace hyp := (if_pos q1).symm.trans hyp
      refine V_weak (lv' := [some (.ref 103), none, none]) (lvle_s (lvle_n (lvle_n lvle_0))) ?_
      exact (T_X12_floors_b43 C) h hyp
    · replace hyp := (if_neg q1).symm.trans hyp
      refine V_aload_n (pc := 30) C dX12_floors_30 rfl ?_
      refine V_getR (pc := 31) C dX12_floors_31 lf_X12_17 fk_103_11 ?_
      refine V_iload_n (pc := 34) C dX12_floors_34 rfl ?_
      refine V_iconst (pc := 35) C dX12_floors_35 (v := 0) (by decide) ?_
      obtain ⟨g2, hyp⟩ := gd_n hyp
      obtain ⟨h3, eh3, hyp⟩ := hb_n hyp
      refine V_zast (pc := 36) C dX12_floors_36 ak_105 g2 eh3 ?_
      obtain ⟨v4, ev4, hyp⟩ := ib_n hyp
      refine V_iinc (pc := 37) C dX12_floors_37 (v := v4) rfl (by rw [ev4]; rfl) (by decide) rfl ?_
      refine V_goto (pc := 40) C dX12_floors_40 (tgt := 24) (by decide) ?_
      refine V_weak (lv' := [some (.ref 103), none, some (.int v4)]) (lvle_s (lvle_n (lvle_s lvle_0))) ?_
      exact ih v4 h3 hyp
def F_X12_floors (N : Nat) (a1 : Int32) (h : PH) : Option (Int32 × PH) :=
  hb (hs h 103 0 (0 : Int32)) fun h1 =>
  bI (F_X12_within a1 (2 : Int32) (6 : Int32) h1) fun r2 h3 =>
  if r2 = 0 then
    some ((0 : Int32), h3)
  else
    hb (hs h3 103 1 a1) fun h5 =>
    F_X12_floors_b24 N N (0 : Int32) h5
set_option maxRecDepth 20000 in
set_option maxHeartbeats 4000000 in
theorem M_X12_floors (E : EV) {N : Nat} {a1 : Int32} {r : Int32} {h h2 : PH} (hyp : F_X12_floors N a1 h = some (r, h2)) : MI E 154 yX12_floors cX12_floors 3 (some .boolean) 1 22 [.ref 103, .int a1] h r h2 := by
  refine MI.of 1 (by decide) rfl (fun X e1 C => ?_)
  subst e1
  replace C : CX X 154 cX12_floors 3 RX12 (some .boolean) 1 22 := C
  show V X _ h 0 [some (.ref 103), some (.int a1), none] []
  unfold F_X12_floors at hyp
  refine V_aload_n (pc := 0) C dX12_floors_0 rfl ?_
  refine V_iconst (pc := 1) C dX12_floors_1 (v := 0) (by decide) ?_
  obtain ⟨h1, eh1, hyp⟩ := hb_n hyp
  refine V_putI (pc := 2) C dX12_floors_2 lf_X12_180 fk_103_0 rfl rfl eh1 ?_
  refine V_iload_n (pc := 5) C dX12_floors_5 rfl ?_
  refine V_iconst (pc := 6) C dX12_floors_6 (v := 2) (by decide) ?_
  refine V_bipush (pc := 7) C dX12_floors_7 (v := 6) (by decide) ?_
  obtain ⟨r2, h3, eh3, hyp⟩ := bI_n hyp
  refine V_statI (pc := 9) C dX12_floors_9 lm_X12_183 ms_X12_within (M_X12_within _ eh3) rfl pd_X12_within (by decide) (by decide) (by decide) (As := [.int a1, .int (2 : Int32), .int (6 : Int32)]) (rest := []) rfl (Nat.le_of_ble_eq_true rfl) ?_
  refine V_if_ne (pc := 12) C dX12_floors_12 (tgt := 17) (by decide) (fun q4 => ?_) (fun q4 => ?_)
  · replace hyp := (if_neg q4).symm.trans hyp
    refine V_aload_n (pc := 17) C dX12_floors_17 rfl ?_
    refine V_iload_n (pc := 18) C dX12_floors_18 rfl ?_
    obtain ⟨h5, eh5, hyp⟩ := hb_n hyp
    refine V_putI (pc := 19) C dX12_floors_19 lf_X12_7 fk_103_1 rfl rfl eh5 ?_
    refine V_iconst (pc := 22) C dX12_floors_22 (v := 0) (by decide) ?_
    refine V_istore_n (pc := 23) C dX12_floors_23 (by decide) rfl ?_
    refine V_weak (lv' := [some (.ref 103), none, some (.int (0 : Int32))]) (lvle_s (lvle_n (lvle_s lvle_0))) ?_
    exact (T_X12_floors_b24 C) N (0 : Int32) h5 hyp
  · replace hyp := (if_pos q4).symm.trans hyp
    refine V_iconst (pc := 15) C dX12_floors_15 (v := 0) (by decide) ?_
    cases hyp
    exact V_zret C dX12_floors_16 rfl
theorem dX12_feed_0 : decode cX12_feed 0 = .ok (.aload_n 0, 1) := by decide +kernel
theorem dX12_feed_1 : decode cX12_feed 1 = .ok (.iconst 0, 1) := by decide +kernel
theorem dX12_feed_2 : decode cX12_feed 2 = .ok (.putfield 180, 3) := by decide +kernel
theorem dX12_feed_5 : decode cX12_feed 5 = .ok (.iconst 0, 1) := by decide +kernel
theorem dX12_feed_6 : decode cX12_feed 6 = .ok (.istore 7, 2) := by decide +kernel
theorem dX12_feed_8 : decode cX12_feed 8 = .ok (.iload 7, 2) := by decide +kernel
theorem dX12_feed_10 : decode cX12_feed 10 = .ok (.bipush 24, 2) := by decide +kernel
theorem dX12_feed_12 : decode cX12_feed 12 = .ok (.if_icmp .ge 108, 3) := by decide +kernel
theorem dX12_feed_15 : decode cX12_feed 15 = .ok (.iload 7, 2) := by decide +kernel
theorem dX12_feed_17 : decode cX12_feed 17 = .ok (.bipush 8, 2) := by decide +kernel
theorem dX12_feed_19 : decode cX12_feed 19 = .ok (.if_icmp .ge 7, 3) := by decide +kernel
theorem dX12_feed_22 : decode cX12_feed 22 = .ok (.lload_n 1, 1) := by decide +kernel
theorem dX12_feed_23 : decode cX12_feed 23 = .ok (.goto 16, 3) := by decide +kernel
theorem dX12_feed_26 : decode cX12_feed 26 = .ok (.iload 7, 2) := by decide +kernel
theorem dX12_feed_28 : decode cX12_feed 28 = .ok (.bipush 16, 2) := by decide +kernel
theorem dX12_feed_30 : decode cX12_feed 30 = .ok (.if_icmp .ge 7, 3) := by decide +kernel
theorem dX12_feed_33 : decode cX12_feed 33 = .ok (.lload_n 3, 1) := by decide +kernel
theorem dX12_feed_34 : decode cX12_feed 34 = .ok (.goto 5, 3) := by decide +kernel
theorem dX12_feed_37 : decode cX12_feed 37 = .ok (.lload 5, 2) := by decide +kernel
theorem dX12_feed_39 : decode cX12_feed 39 = .ok (.lstore 8, 2) := by decide +kernel
theorem dX12_feed_41 : decode cX12_feed 41 = .ok (.lload 8, 2) := by decide +kernel
theorem dX12_feed_43 : decode cX12_feed 43 = .ok (.bipush 56, 2) := by decide +kernel
theorem dX12_feed_45 : decode cX12_feed 45 = .ok (.bipush 8, 2) := by decide +kernel
theorem dX12_feed_47 : decode cX12_feed 47 = .ok (.iload 7, 2) := by decide +kernel
theorem dX12_feed_49 : decode cX12_feed 49 = .ok (.bipush 7, 2) := by decide +kernel
theorem dX12_feed_51 : decode cX12_feed 51 = .ok (.iand, 1) := by decide +kernel
theorem dX12_feed_52 : decode cX12_feed 52 = .ok (.imul, 1) := by decide +kernel
theorem dX12_feed_53 : decode cX12_feed 53 = .ok (.isub, 1) := by decide +kernel
theorem dX12_feed_54 : decode cX12_feed 54 = .ok (.lushr, 1) := by decide +kernel
theorem dX12_feed_55 : decode cX12_feed 55 = .ok (.ldc2_w 212, 3) := by decide +kernel
theorem dX12_feed_58 : decode cX12_feed 58 = .ok (.land, 1) := by decide +kernel
theorem dX12_feed_59 : decode cX12_feed 59 = .ok (.l2i, 1) := by decide +kernel
theorem dX12_feed_60 : decode cX12_feed 60 = .ok (.istore 10, 2) := by decide +kernel
theorem dX12_feed_62 : decode cX12_feed 62 = .ok (.aload_n 0, 1) := by decide +kernel
theorem dX12_feed_63 : decode cX12_feed 63 = .ok (.getfield 214, 3) := by decide +kernel
theorem dX12_feed_66 : decode cX12_feed 66 = .ok (.sipush 1000, 3) := by decide +kernel
theorem dX12_feed_69 : decode cX12_feed 69 = .ok (.if_icmp .ge 45, 3) := by decide +kernel
theorem dX12_feed_72 : decode cX12_feed 72 = .ok (.iload 10, 2) := by decide +kernel
theorem dX12_feed_74 : decode cX12_feed 74 = .ok (.bipush 10, 2) := by decide +kernel
theorem dX12_feed_76 : decode cX12_feed 76 = .ok (.if_icmp .eq 17, 3) := by decide +kernel
theorem dX12_feed_79 : decode cX12_feed 79 = .ok (.iload 10, 2) := by decide +kernel
theorem dX12_feed_81 : decode cX12_feed 81 = .ok (.bipush 32, 2) := by decide +kernel
theorem dX12_feed_83 : decode cX12_feed 83 = .ok (.if_icmp .lt 31, 3) := by decide +kernel
theorem dX12_feed_86 : decode cX12_feed 86 = .ok (.iload 10, 2) := by decide +kernel
theorem dX12_feed_88 : decode cX12_feed 88 = .ok (.bipush 126, 2) := by decide +kernel
theorem dX12_feed_90 : decode cX12_feed 90 = .ok (.if_icmp .gt 24, 3) := by decide +kernel
theorem dX12_feed_93 : decode cX12_feed 93 = .ok (.aload_n 0, 1) := by decide +kernel
theorem dX12_feed_94 : decode cX12_feed 94 = .ok (.getfield 13, 3) := by decide +kernel
theorem dX12_feed_97 : decode cX12_feed 97 = .ok (.aload_n 0, 1) := by decide +kernel
theorem dX12_feed_98 : decode cX12_feed 98 = .ok (.getfield 214, 3) := by decide +kernel
theorem dX12_feed_101 : decode cX12_feed 101 = .ok (.iload 10, 2) := by decide +kernel
theorem dX12_feed_103 : decode cX12_feed 103 = .ok (.iastore, 1) := by decide +kernel
theorem dX12_feed_104 : decode cX12_feed 104 = .ok (.aload_n 0, 1) := by decide +kernel
theorem dX12_feed_105 : decode cX12_feed 105 = .ok (.dup, 1) := by decide +kernel
theorem dX12_feed_106 : decode cX12_feed 106 = .ok (.getfield 214, 3) := by decide +kernel
theorem dX12_feed_109 : decode cX12_feed 109 = .ok (.iconst 1, 1) := by decide +kernel
theorem dX12_feed_110 : decode cX12_feed 110 = .ok (.iadd, 1) := by decide +kernel
theorem dX12_feed_111 : decode cX12_feed 111 = .ok (.putfield 214, 3) := by decide +kernel
theorem dX12_feed_114 : decode cX12_feed 114 = .ok (.iinc 7 1, 3) := by decide +kernel
theorem dX12_feed_117 : decode cX12_feed 117 = .ok (.goto (-109), 3) := by decide +kernel
theorem dX12_feed_120 : decode cX12_feed 120 = .ok (.aload_n 0, 1) := by decide +kernel
theorem dX12_feed_121 : decode cX12_feed 121 = .ok (.getfield 214, 3) := by decide +kernel
theorem dX12_feed_124 : decode cX12_feed 124 = .ok (.ireturn, 1) := by decide +kernel
def F_X12_feed_b114 (N : Nat) (rc8 : Int64 → Int64 → Int64 → Int32 → PH → Option (Int32 × PH)) (x1 : Int64) (x3 : Int64) (x5 : Int64) (x7 : Int32) (h : PH) : Option (Int32 × PH) :=
  ib (x7 + (1 : Int32)) fun v1 =>
  rc8 x1 x3 x5 v1 h
set_option maxRecDepth 20000 in
set_option maxHeartbeats 4000000 in
theorem T_X12_feed_b114 {X : CT} (C : CX X 154 cX12_feed 11 RX12 (some .int) 0 0) {r0 : Int32} {h0 : PH} {N : Nat} {rc8 : Int64 → Int64 → Int64 → Int32 → PH → Option (Int32 × PH)} (hr8 : ∀ (x1 : Int64) (x3 : Int64) (x5 : Int64) (x7 : Int32) (h : PH), rc8 x1 x3 x5 x7 h = some (r0, h0) → V X (QI X r0 h0) h 8 [some (.ref 103), some (.long x1), none, some (.long x3), none, some (.long x5), none, some (.int x7), none, none, none] []) : ∀ (x1 : Int64) (x3 : Int64) (x5 : Int64) (x7 : Int32) (h : PH), F_X12_feed_b114 N rc8 x1 x3 x5 x7 h = some (r0, h0) → V X (QI X r0 h0) h 114 [some (.ref 103), some (.long x1), none, some (.long x3), none, some (.long x5), none, some (.int x7), none, none, none] [] := by
  intro x1 x3 x5 x7 h hyp
  unfold F_X12_feed_b114 at hyp
  obtain ⟨v1, ev1, hyp⟩ := ib_n hyp
  refine V_iinc (pc := 114) C dX12_feed_114 (v := v1) rfl (by rw [ev1]; rfl) (by decide) rfl ?_
  refine V_goto (pc := 117) C dX12_feed_117 (tgt := 8) (by decide) ?_
  refine V_weak (lv' := [some (.ref 103), some (.long x1), none, some (.long x3), none, some (.long x5), none, some (.int v1), none, none, none]) (lvle_s (lvle_s (lvle_n (lvle_s (lvle_n (lvle_s (lvle_n (lvle_s (lvle_n (lvle_n (lvle_n lvle_0))))))))))) ?_
  exact hr8 x1 x3 x5 v1 h hyp
def F_X12_feed_b93 (N : Nat) (rc8 : Int64 → Int64 → Int64 → Int32 → PH → Option (Int32 × PH)) (x1 : Int64) (x3 : Int64) (x5 : Int64) (x7 : Int32) (x10 : Int32) (h : PH) : Option (Int32 × PH) :=
  if inb (h.1 103 2) 1000 = true then
  hb (hs h 104 (h.1 103 2).toNatClampNeg x10) fun h2 =>
  hb (hs h2 103 2 ((h2.1 103 2) + (1 : Int32))) fun h3 =>
  F_X12_feed_b114 N rc8 x1 x3 x5 x7 h3
  else none
set_option maxRecDepth 20000 in
set_option maxHeartbeats 4000000 in
theorem T_X12_feed_b93 {X : CT} (C : CX X 154 cX12_feed 11 RX12 (some .int) 0 0) {r0 : Int32} {h0 : PH} {N : Nat} {rc8 : Int64 → Int64 → Int64 → Int32 → PH → Option (Int32 × PH)} (hr8 : ∀ (x1 : Int64) (x3 : Int64) (x5 : Int64) (x7 : Int32) (h : PH), rc8 x1 x3 x5 x7 h = some (r0, h0) → V X (QI X r0 h0) h 8 [some (.ref 103), some (.long x1), none, some (.long x3), none, some (.long x5), none, some (.int x7), none, none, none] []) : ∀ (x1 : Int64) (x3 : Int64) (x5 : Int64) (x7 : Int32) (x10 : Int32) (h : PH), F_X12_feed_b93 N rc8 x1 x3 x5 x7 x10 h = some (r0, h0) → V X (QI X r0 h0) h 93 [some (.ref 103), some (.long x1), none, some (.long x3), none, some (.long x5), none, some (.int x7), none, none, some (.int x10)] [] := by
  intro x1 x3 x5 x7 x10 h hyp
  unfold F_X12_feed_b93 at hyp
  refine V_aload_n (pc := 93) C dX12_feed_93 rfl ?_
  refine V_getR (pc := 94) C dX12_feed_94 lf_X12_13 fk_103_3 ?_
  refine V_aload_n (pc := 97) C dX12_feed_97 rfl ?_
  refine V_getI (pc := 98) C dX12_feed_98 lf_X12_214 fk_103_2 ?_
  refine V_iload (pc := 101) C dX12_feed_101 rfl ?_
  obtain ⟨g1, hyp⟩ := gd_n hyp
  obtain ⟨h2, eh2, hyp⟩ := hb_n hyp
  refine V_iast (pc := 103) C dX12_feed_103 ak_104 g1 eh2 ?_
  refine V_aload_n (pc := 104) C dX12_feed_104 rfl ?_
  refine V_dup (pc := 105) C dX12_feed_105 rfl ?_
  refine V_getI (pc := 106) C dX12_feed_106 lf_X12_214 fk_103_2 ?_
  refine V_iconst (pc := 109) C dX12_feed_109 (v := 1) (by decide) ?_
  refine V_iadd (pc := 110) C dX12_feed_110 ?_
  obtain ⟨h3, eh3, hyp⟩ := hb_n hyp
  refine V_putI (pc := 111) C dX12_feed_111 lf_X12_214 fk_103_2 rfl rfl eh3 ?_
  refine V_weak (lv' := [some (.ref 103), some (.long x1), none, some (.long x3), none, some (.long x5), none, some (.int x7), none, none, none]) (lvle_s (lvle_s (lvle_n (lvle_s (lvle_n (lvle_s (lvle_n (lvle_s (lvle_n (lvle_n (lvle_n lvle_0))))))))))) ?_
  exact (T_X12_feed_b114 C hr8) x1 x3 x5 x7 h3 hyp
def F_X12_feed_b39 (N : Nat) (rc8 : Int64 → Int64 → Int64 → Int32 → PH → Option (Int32 × PH)) (x1 : Int64) (x3 : Int64) (x5 : Int64) (x7 : Int32) (s0 : Int64) (h : PH) : Option (Int32 × PH) :=
  ib ((((s0.toUInt64 >>> (((56 : Int32) - ((8 : Int32) * (x7 &&& (7 : Int32)))).toInt64.toUInt64 &&& Int64.toUInt64 63)).toInt64) &&& (255 : Int64)).toInt32) fun v1 =>
  if (1000 : Int32) ≤ (h.1 103 2) then
    F_X12_feed_b114 N rc8 x1 x3 x5 x7 h
  else
    if v1 = (10 : Int32) then
      F_X12_feed_b93 N rc8 x1 x3 x5 x7 v1 h
    else
      if v1 < (32 : Int32) then
        F_X12_feed_b114 N rc8 x1 x3 x5 x7 h
      else
        if (126 : Int32) < v1 then
          F_X12_feed_b114 N rc8 x1 x3 x5 x7 h
        else
          F_X12_feed_b93 N rc8 x1 x3 x5 x7 v1 h
set_option maxRecDepth 20000 in
set_option maxHeartbeats 4000000 in
theorem T_X12_feed_b39 {X : CT} (C : CX X 154 cX12_feed 11 RX12 (some .int) 0 0) {r0 : Int32} {h0 : PH} {N : Nat} {rc8 : Int64 → Int64 → Int64 → Int32 → PH → Option (Int32 × PH)} (hr8 : ∀ (x1 : Int64) (x3 : Int64) (x5 : Int64) (x7 : Int32) (h : PH), rc8 x1 x3 x5 x7 h = some (r0, h0) → V X (QI X r0 h0) h 8 [some (.ref 103), some (.long x1), none, some (.long x3), none, some (.long x5), none, some (.int x7), none, none, none] []) : ∀ (x1 : Int64) (x3 : Int64) (x5 : Int64) (x7 : Int32) (s0 : Int64) (h : PH), F_X12_feed_b39 N rc8 x1 x3 x5 x7 s0 h = some (r0, h0) → V X (QI X r0 h0) h 39 [some (.ref 103), some (.long x1), none, some (.long x3), none, some (.long x5), none, some (.int x7), none, none, none] [.long s0] := by
  intro x1 x3 x5 x7 s0 h hyp
  unfold F_X12_feed_b39 at hyp
  refine V_lstore (pc := 39) C dX12_feed_39 (by decide) rfl ?_
  refine V_lload (pc := 41) C dX12_feed_41 rfl ?_
  refine V_bipush (pc := 43) C dX12_feed_43 (v := 56) (by decide) ?_
  refine V_bipush (pc := 45) C dX12_feed_45 (v := 8) (by decide) ?_
  refine V_iload (pc := 47) C dX12_feed_47 rfl ?_
  refine V_bipush (pc := 49) C dX12_feed_49 (v := 7) (by decide) ?_
  refine V_iand (pc := 51) C dX12_feed_51 ?_
  refine V_imul (pc := 52) C dX12_feed_52 ?_
  refine V_isub (pc := 53) C dX12_feed_53 ?_
  refine V_lushr (pc := 54) C dX12_feed_54 ?_
  refine V_ldc2 (pc := 55) C dX12_feed_55 ll_X12_212 ?_
  refine V_land (pc := 58) C dX12_feed_58 ?_
  refine V_l2i (pc := 59) C dX12_feed_59 ?_
  obtain ⟨v1, ev1, hyp⟩ := ib_n hyp
  refine V_topI ev1 ?_
  refine V_istore (pc := 60) C dX12_feed_60 (by decide) rfl ?_
  refine V_aload_n (pc := 62) C dX12_feed_62 rfl ?_
  refine V_getI (pc := 63) C dX12_feed_63 lf_X12_214 fk_103_2 ?_
  refine V_sipush (pc := 66) C dX12_feed_66 (v := 1000) (by decide) ?_
  refine V_icmp_ge (pc := 69) C dX12_feed_69 (tgt := 114) (by decide) (fun q2 => ?_) (fun q2 => ?_)
  · replace hyp := (if_pos q2).symm.trans hyp
    refine V_weak (lv' := [some (.ref 103), some (.long x1), none, some (.long x3), none, some (.long x5), none, some (.int x7), none, none, none]) (lvle_s (lvle_s (lvle_n (lvle_s (lvle_n (lvle_s (lvle_n (lvle_s (lvle_n (lvle_n (lvle_n lvle_0))))))))))) ?_
    exact (T_X12_feed_b114 C hr8) x1 x3 x5 x7 h hyp
  · replace hyp := (if_neg q2).symm.trans hyp
    refine V_iload (pc := 72) C dX12_feed_72 rfl ?_
    refine V_bipush (pc := 74) C dX12_feed_74 (v := 10) (by decide) ?_
    refine V_icmp_eq (pc := 76) C dX12_feed_76 (tgt := 93) (by decide) (fun q3 => ?_) (fun q3 => ?_)
    · replace hyp := (if_pos q3).symm.trans hyp
      refine V_weak (lv' := [some (.ref 103), some (.long x1), none, some (.long x3), none, some (.long x5), none, some (.int x7), none, none, some (.int v1)]) (lvle_s (lvle_s (lvle_n (lvle_s (lvle_n (lvle_s (lvle_n (lvle_s (lvle_n (lvle_n (lvle_s lvle_0))))))))))) ?_
      exact (T_X12_feed_b93 C hr8) x1 x3 x5 x7 v1 h hyp
    · replace hyp := (if_neg q3).symm.trans hyp
      refine V_iload (pc := 79) C dX12_feed_79 rfl ?_
      refine V_bipush (pc := 81) C dX12_feed_81 (v := 32) (by decide) ?_
      refine V_icmp_lt (pc := 83) C dX12_feed_83 (tgt := 114) (by decide) (fun q4 => ?_) (fun q4 => ?_)
      · replace hyp := (if_pos q4).symm.trans hyp
        refine V_weak (lv' := [some (.ref 103), some (.long x1), none, some (.long x3), none, some (.long x5), none, some (.int x7), none, none, none]) (lvle_s (lvle_s (lvle_n (lvle_s (lvle_n (lvle_s (lvle_n (lvle_s (lvle_n (lvle_n (lvle_n lvle_0))))))))))) ?_
        exact (T_X12_feed_b114 C hr8) x1 x3 x5 x7 h hyp
      · replace hyp := (if_neg q4).symm.trans hyp
        refine V_iload (pc := 86) C dX12_feed_86 rfl ?_
        refine V_bipush (pc := 88) C dX12_feed_88 (v := 126) (by decide) ?_
        refine V_icmp_gt (pc := 90) C dX12_feed_90 (tgt := 114) (by decide) (fun q5 => ?_) (fun q5 => ?_)
        · replace hyp := (if_pos q5).symm.trans hyp
          refine V_weak (lv' := [some (.ref 103), some (.long x1), none, some (.long x3), none, some (.long x5), none, some (.int x7), none, none, none]) (lvle_s (lvle_s (lvle_n (lvle_s (lvle_n (lvle_s (lvle_n (lvle_s (lvle_n (lvle_n (lvle_n lvle_0))))))))))) ?_
          exact (T_X12_feed_b114 C hr8) x1 x3 x5 x7 h hyp
        · replace hyp := (if_neg q5).symm.trans hyp
          refine V_weak (lv' := [some (.ref 103), some (.long x1), none, some (.long x3), none, some (.long x5), none, some (.int x7), none, none, some (.int v1)]) (lvle_s (lvle_s (lvle_n (lvle_s (lvle_n (lvle_s (lvle_n (lvle_s (lvle_n (lvle_n (lvle_s lvle_0))))))))))) ?_
          exact (T_X12_feed_b93 C hr8) x1 x3 x5 x7 v1 h hyp
def F_X12_feed_b8 (N : Nat) : Nat → Int64 → Int64 → Int64 → Int32 → PH → Option (Int32 × PH)
  | 0, _, _, _, _, _ => none
  | n + 1, x1, x3, x5, x7, h =>
    if (24 : Int32) ≤ x7 then
      some (h.1 103 2, h)
    else
      if (8 : Int32) ≤ x7 then
        if (16 : Int32) ≤ x7 then
          F_X12_feed_b39 N (F_X12_feed_b8 N n) x1 x3 x5 x7 x5 h
        else
          F_X12_feed_b39 N (F_X12_feed_b8 N n) x1 x3 x5 x7 x3 h
      else
        F_X12_feed_b39 N (F_X12_feed_b8 N n) x1 x3 x5 x7 x1 h
set_option maxRecDepth 20000 in
set_option maxHeartbeats 4000000 in
theorem T_X12_feed_b8 {X : CT} (C : CX X 154 cX12_feed 11 RX12 (some .int) 0 0) {r0 : Int32} {h0 : PH} {N : Nat} : ∀ (n : Nat) (x1 : Int64) (x3 : Int64) (x5 : Int64) (x7 : Int32) (h : PH), F_X12_feed_b8 N n x1 x3 x5 x7 h = some (r0, h0) → V X (QI X r0 h0) h 8 [some (.ref 103), some (.long x1), none, some (.long x3), none, some (.long x5), none, some (.int x7), none, none, none] [] := by
  intro n
  induction n with
  | zero =>
    intro x1 x3 x5 x7 h hyp
    cases hyp
  | succ n ih =>
    intro x1 x3 x5 x7 h hyp
    unfold F_X12_feed_b8 at hyp
    refine V_iload (pc := 8) C dX12_feed_8 rfl ?_
    refine V_bipush (pc := 10) C dX12_feed_10 (v := 24) (by decide) ?_
    refine V_icmp_ge (pc := 12) C dX12_feed_12 (tgt := 120) (by decide) (fun q1 => ?_) (fun q1 => ?_)
    · replace hyp := (if_pos q1).symm.trans hyp
      refine V_aload_n (pc := 120) C dX12_feed_120 rfl ?_
      refine V_getI (pc := 121) C dX12_feed_121 lf_X12_214 fk_103_2 ?_
      cases hyp
      exact V_iret C dX12_feed_124
    · replace hyp := (if_neg q1).symm.trans hyp
      refine V_iload (pc := 15) C dX12_feed_15 rfl ?_
      refine V_bipush (pc := 17) C dX12_feed_17 (v := 8) (by decide) ?_
      refine V_icmp_ge (pc := 19) C dX12_feed_19 (tgt := 26) (by decide) (fun q2 => ?_) (fun q2 => ?_)
      · replace hyp := (if_pos q2).symm.trans hyp
        refine V_iload (pc := 26) C dX12_feed_26 rfl ?_
        refine V_bipush (pc := 28) C dX12_feed_28 (v := 16) (by decide) ?_
        refine V_icmp_ge (pc := 30) C dX12_feed_30 (tgt := 37) (by decide) (fun q3 => ?_) (fun q3 => ?_)
        · replace hyp := (if_pos q3).symm.trans hyp
          refine V_lload (pc := 37) C dX12_feed_37 rfl ?_
          refine V_weak (lv' := [some (.ref 103), some (.long x1), none, some (.long x3), none, some (.long x5), none, some (.int x7), none, none, none]) (lvle_s (lvle_s (lvle_n (lvle_s (lvle_n (lvle_s (lvle_n (lvle_s (lvle_n (lvle_n (lvle_n lvle_0))))))))))) ?_
          exact (T_X12_feed_b39 C ih) x1 x3 x5 x7 x5 h hyp
        · replace hyp := (if_neg q3).symm.trans hyp
          refine V_lload_n (pc := 33) C dX12_feed_33 rfl ?_
          refine V_goto (pc := 34) C dX12_feed_34 (tgt := 39) (by decide) ?_
          refine V_weak (lv' := [some (.ref 103), some (.long x1), none, some (.long x3), none, some (.long x5), none, some (.int x7), none, none, none]) (lvle_s (lvle_s (lvle_n (lvle_s (lvle_n (lvle_s (lvle_n (lvle_s (lvle_n (lvle_n (lvle_n lvle_0))))))))))) ?_
          exact (T_X12_feed_b39 C ih) x1 x3 x5 x7 x3 h hyp
      · replace hyp := (if_neg q2).symm.trans hyp
        refine V_lload_n (pc := 22) C dX12_feed_22 rfl ?_
        refine V_goto (pc := 23) C dX12_feed_23 (tgt := 39) (by decide) ?_
        refine V_weak (lv' := [some (.ref 103), some (.long x1), none, some (.long x3), none, some (.long x5), none, some (.int x7), none, none, none]) (lvle_s (lvle_s (lvle_n (lvle_s (lvle_n (lvle_s (lvle_n (lvle_s (lvle_n (lvle_n (lvle_n lvle_0))))))))))) ?_
        exact (T_X12_feed_b39 C ih) x1 x3 x5 x7 x1 h hyp
def F_X12_feed (N : Nat) (a1 : Int64) (a2 : Int64) (a3 : Int64) (h : PH) : Option (Int32 × PH) :=
  hb (hs h 103 0 (0 : Int32)) fun h1 =>
  F_X12_feed_b8 N N a1 a2 a3 (0 : Int32) h1
set_option maxRecDepth 20000 in
set_option maxHeartbeats 4000000 in
theorem M_X12_feed (E : EV) {N : Nat} {a1 : Int64} {a2 : Int64} {a3 : Int64} {r : Int32} {h h2 : PH} (hyp : F_X12_feed N a1 a2 a3 h = some (r, h2)) : MI E 154 yX12_feed cX12_feed 11 (some .int) 0 0 [.ref 103, .long a1, .long a2, .long a3] h r h2 := by
  refine MI.of 4 (by decide) rfl (fun X e1 C => ?_)
  subst e1
  replace C : CX X 154 cX12_feed 11 RX12 (some .int) 0 0 := C
  show V X _ h 0 [some (.ref 103), some (.long a1), none, some (.long a2), none, some (.long a3), none, none, none, none, none] []
  unfold F_X12_feed at hyp
  refine V_aload_n (pc := 0) C dX12_feed_0 rfl ?_
  refine V_iconst (pc := 1) C dX12_feed_1 (v := 0) (by decide) ?_
  obtain ⟨h1, eh1, hyp⟩ := hb_n hyp
  refine V_putI (pc := 2) C dX12_feed_2 lf_X12_180 fk_103_0 rfl rfl eh1 ?_
  refine V_iconst (pc := 5) C dX12_feed_5 (v := 0) (by decide) ?_
  refine V_istore (pc := 6) C dX12_feed_6 (by decide) rfl ?_
  refine V_weak (lv' := [some (.ref 103), some (.long a1), none, some (.long a2), none, some (.long a3), none, some (.int (0 : Int32)), none, none, none]) (lvle_s (lvle_s (lvle_n (lvle_s (lvle_n (lvle_s (lvle_n (lvle_s (lvle_n (lvle_n (lvle_n lvle_0))))))))))) ?_
  exact (T_X12_feed_b8 C) N a1 a2 a3 (0 : Int32) h1 hyp
theorem dX12_signAt_0 : decode cX12_signAt 0 = .ok (.iload_n 1, 1) := by decide +kernel
theorem dX12_signAt_1 : decode cX12_signAt 1 = .ok (.aload_n 0, 1) := by decide +kernel
theorem dX12_signAt_2 : decode cX12_signAt 2 = .ok (.getfield 217, 3) := by decide +kernel
theorem dX12_signAt_5 : decode cX12_signAt 5 = .ok (.if_icmp .ge 12, 3) := by decide +kernel
theorem dX12_signAt_8 : decode cX12_signAt 8 = .ok (.aload_n 0, 1) := by decide +kernel
theorem dX12_signAt_9 : decode cX12_signAt 9 = .ok (.getfield 13, 3) := by decide +kernel
theorem dX12_signAt_12 : decode cX12_signAt 12 = .ok (.iload_n 1, 1) := by decide +kernel
theorem dX12_signAt_13 : decode cX12_signAt 13 = .ok (.iaload, 1) := by decide +kernel
theorem dX12_signAt_14 : decode cX12_signAt 14 = .ok (.goto 4, 3) := by decide +kernel
theorem dX12_signAt_17 : decode cX12_signAt 17 = .ok (.iconst 0, 1) := by decide +kernel
theorem dX12_signAt_18 : decode cX12_signAt 18 = .ok (.ireturn, 1) := by decide +kernel
def F_X12_signAt (a1 : Int32) (h : PH) : Option (Int32 × PH) :=
  if (h.1 103 4) ≤ a1 then
    some ((0 : Int32), h)
  else
    if inb a1 1000 = true then
    some (h.1 104 a1.toNatClampNeg, h)
    else none
set_option maxRecDepth 20000 in
set_option maxHeartbeats 4000000 in
theorem M_X12_signAt (E : EV) {a1 : Int32} {r : Int32} {h h2 : PH} (hyp : F_X12_signAt a1 h = some (r, h2)) : MI E 154 yX12_signAt cX12_signAt 2 (some .int) 0 0 [.ref 103, .int a1] h r h2 := by
  refine MI.of 0 (by decide) rfl (fun X e1 C => ?_)
  subst e1
  replace C : CX X 154 cX12_signAt 2 RX12 (some .int) 0 0 := C
  show V X _ h 0 [some (.ref 103), some (.int a1)] []
  unfold F_X12_signAt at hyp
  refine V_iload_n (pc := 0) C dX12_signAt_0 rfl ?_
  refine V_aload_n (pc := 1) C dX12_signAt_1 rfl ?_
  refine V_getI (pc := 2) C dX12_signAt_2 lf_X12_217 fk_103_4 ?_
  refine V_icmp_ge (pc := 5) C dX12_signAt_5 (tgt := 17) (by decide) (fun q1 => ?_) (fun q1 => ?_)
  · replace hyp := (if_pos q1).symm.trans hyp
    refine V_iconst (pc := 17) C dX12_signAt_17 (v := 0) (by decide) ?_
    cases hyp
    exact V_iret C dX12_signAt_18
  · replace hyp := (if_neg q1).symm.trans hyp
    refine V_aload_n (pc := 8) C dX12_signAt_8 rfl ?_
    refine V_getR (pc := 9) C dX12_signAt_9 lf_X12_13 fk_103_3 ?_
    refine V_iload_n (pc := 12) C dX12_signAt_12 rfl ?_
    obtain ⟨g2, hyp⟩ := gd_n hyp
    refine V_iald (pc := 13) C dX12_signAt_13 ak_104 g2 ?_
    refine V_goto (pc := 14) C dX12_signAt_14 (tgt := 18) (by decide) ?_
    cases hyp
    exact V_iret C dX12_signAt_18
theorem dX12_nextToken_0 : decode cX12_nextToken 0 = .ok (.aload_n 0, 1) := by decide +kernel
theorem dX12_nextToken_1 : decode cX12_nextToken 1 = .ok (.getfield 220, 3) := by decide +kernel
theorem dX12_nextToken_4 : decode cX12_nextToken 4 = .ok (.aload_n 0, 1) := by decide +kernel
theorem dX12_nextToken_5 : decode cX12_nextToken 5 = .ok (.getfield 217, 3) := by decide +kernel
theorem dX12_nextToken_8 : decode cX12_nextToken 8 = .ok (.if_icmp .ge 44, 3) := by decide +kernel
theorem dX12_nextToken_11 : decode cX12_nextToken 11 = .ok (.aload_n 0, 1) := by decide +kernel
theorem dX12_nextToken_12 : decode cX12_nextToken 12 = .ok (.getfield 13, 3) := by decide +kernel
theorem dX12_nextToken_15 : decode cX12_nextToken 15 = .ok (.aload_n 0, 1) := by decide +kernel
theorem dX12_nextToken_16 : decode cX12_nextToken 16 = .ok (.getfield 220, 3) := by decide +kernel
theorem dX12_nextToken_19 : decode cX12_nextToken 19 = .ok (.iaload, 1) := by decide +kernel
theorem dX12_nextToken_20 : decode cX12_nextToken 20 = .ok (.bipush 32, 2) := by decide +kernel
theorem dX12_nextToken_22 : decode cX12_nextToken 22 = .ok (.if_icmp .eq 17, 3) := by decide +kernel
theorem dX12_nextToken_25 : decode cX12_nextToken 25 = .ok (.aload_n 0, 1) := by decide +kernel
theorem dX12_nextToken_26 : decode cX12_nextToken 26 = .ok (.getfield 13, 3) := by decide +kernel
theorem dX12_nextToken_29 : decode cX12_nextToken 29 = .ok (.aload_n 0, 1) := by decide +kernel
theorem dX12_nextToken_30 : decode cX12_nextToken 30 = .ok (.getfield 220, 3) := by decide +kernel
theorem dX12_nextToken_33 : decode cX12_nextToken 33 = .ok (.iaload, 1) := by decide +kernel
theorem dX12_nextToken_34 : decode cX12_nextToken 34 = .ok (.bipush 10, 2) := by decide +kernel
theorem dX12_nextToken_36 : decode cX12_nextToken 36 = .ok (.if_icmp .ne 16, 3) := by decide +kernel
theorem dX12_nextToken_39 : decode cX12_nextToken 39 = .ok (.aload_n 0, 1) := by decide +kernel
theorem dX12_nextToken_40 : decode cX12_nextToken 40 = .ok (.dup, 1) := by decide +kernel
theorem dX12_nextToken_41 : decode cX12_nextToken 41 = .ok (.getfield 220, 3) := by decide +kernel
theorem dX12_nextToken_44 : decode cX12_nextToken 44 = .ok (.iconst 1, 1) := by decide +kernel
theorem dX12_nextToken_45 : decode cX12_nextToken 45 = .ok (.iadd, 1) := by decide +kernel
theorem dX12_nextToken_46 : decode cX12_nextToken 46 = .ok (.putfield 220, 3) := by decide +kernel
theorem dX12_nextToken_49 : decode cX12_nextToken 49 = .ok (.goto (-49), 3) := by decide +kernel
theorem dX12_nextToken_52 : decode cX12_nextToken 52 = .ok (.aload_n 0, 1) := by decide +kernel
theorem dX12_nextToken_53 : decode cX12_nextToken 53 = .ok (.aload_n 0, 1) := by decide +kernel
theorem dX12_nextToken_54 : decode cX12_nextToken 54 = .ok (.getfield 220, 3) := by decide +kernel
theorem dX12_nextToken_57 : decode cX12_nextToken 57 = .ok (.putfield 223, 3) := by decide +kernel
theorem dX12_nextToken_60 : decode cX12_nextToken 60 = .ok (.aload_n 0, 1) := by decide +kernel
theorem dX12_nextToken_61 : decode cX12_nextToken 61 = .ok (.lconst 0, 1) := by decide +kernel
theorem dX12_nextToken_62 : decode cX12_nextToken 62 = .ok (.putfield 226, 3) := by decide +kernel
theorem dX12_nextToken_65 : decode cX12_nextToken 65 = .ok (.aload_n 0, 1) := by decide +kernel
theorem dX12_nextToken_66 : decode cX12_nextToken 66 = .ok (.iconst 0, 1) := by decide +kernel
theorem dX12_nextToken_67 : decode cX12_nextToken 67 = .ok (.putfield 230, 3) := by decide +kernel
theorem dX12_nextToken_70 : decode cX12_nextToken 70 = .ok (.aload_n 0, 1) := by decide +kernel
theorem dX12_nextToken_71 : decode cX12_nextToken 71 = .ok (.getfield 220, 3) := by decide +kernel
theorem dX12_nextToken_74 : decode cX12_nextToken 74 = .ok (.aload_n 0, 1) := by decide +kernel
theorem dX12_nextToken_75 : decode cX12_nextToken 75 = .ok (.getfield 217, 3) := by decide +kernel
theorem dX12_nextToken_78 : decode cX12_nextToken 78 = .ok (.if_icmp .ne 9, 3) := by decide +kernel
theorem dX12_nextToken_81 : decode cX12_nextToken 81 = .ok (.aload_n 0, 1) := by decide +kernel
theorem dX12_nextToken_82 : decode cX12_nextToken 82 = .ok (.iconst 0, 1) := by decide +kernel
theorem dX12_nextToken_83 : decode cX12_nextToken 83 = .ok (.putfield 233, 3) := by decide +kernel
theorem dX12_nextToken_86 : decode cX12_nextToken 86 = .ok (.return_, 1) := by decide +kernel
theorem dX12_nextToken_87 : decode cX12_nextToken 87 = .ok (.aload_n 0, 1) := by decide +kernel
theorem dX12_nextToken_88 : decode cX12_nextToken 88 = .ok (.getfield 13, 3) := by decide +kernel
theorem dX12_nextToken_91 : decode cX12_nextToken 91 = .ok (.aload_n 0, 1) := by decide +kernel
theorem dX12_nextToken_92 : decode cX12_nextToken 92 = .ok (.getfield 220, 3) := by decide +kernel
theorem dX12_nextToken_95 : decode cX12_nextToken 95 = .ok (.iaload, 1) := by decide +kernel
theorem dX12_nextToken_96 : decode cX12_nextToken 96 = .ok (.istore_n 1, 1) := by decide +kernel
theorem dX12_nextToken_97 : decode cX12_nextToken 97 = .ok (.iload_n 1, 1) := by decide +kernel
theorem dX12_nextToken_98 : decode cX12_nextToken 98 = .ok (.bipush 97, 2) := by decide +kernel
theorem dX12_nextToken_100 : decode cX12_nextToken 100 = .ok (.if_icmp .lt 112, 3) := by decide +kernel
theorem dX12_nextToken_103 : decode cX12_nextToken 103 = .ok (.iload_n 1, 1) := by decide +kernel
theorem dX12_nextToken_104 : decode cX12_nextToken 104 = .ok (.bipush 122, 2) := by decide +kernel
theorem dX12_nextToken_106 : decode cX12_nextToken 106 = .ok (.if_icmp .gt 106, 3) := by decide +kernel
theorem dX12_nextToken_109 : decode cX12_nextToken 109 = .ok (.aload_n 0, 1) := by decide +kernel
theorem dX12_nextToken_110 : decode cX12_nextToken 110 = .ok (.aload_n 0, 1) := by decide +kernel
theorem dX12_nextToken_111 : decode cX12_nextToken 111 = .ok (.getfield 220, 3) := by decide +kernel
theorem dX12_nextToken_114 : decode cX12_nextToken 114 = .ok (.invokevirtual 236, 3) := by decide +kernel
theorem dX12_nextToken_117 : decode cX12_nextToken 117 = .ok (.bipush 97, 2) := by decide +kernel
theorem dX12_nextToken_119 : decode cX12_nextToken 119 = .ok (.if_icmp .lt 69, 3) := by decide +kernel
theorem dX12_nextToken_122 : decode cX12_nextToken 122 = .ok (.aload_n 0, 1) := by decide +kernel
theorem dX12_nextToken_123 : decode cX12_nextToken 123 = .ok (.aload_n 0, 1) := by decide +kernel
theorem dX12_nextToken_124 : decode cX12_nextToken 124 = .ok (.getfield 220, 3) := by decide +kernel
theorem dX12_nextToken_127 : decode cX12_nextToken 127 = .ok (.invokevirtual 236, 3) := by decide +kernel
theorem dX12_nextToken_130 : decode cX12_nextToken 130 = .ok (.bipush 122, 2) := by decide +kernel
theorem dX12_nextToken_132 : decode cX12_nextToken 132 = .ok (.if_icmp .gt 56, 3) := by decide +kernel
theorem dX12_nextToken_135 : decode cX12_nextToken 135 = .ok (.aload_n 0, 1) := by decide +kernel
theorem dX12_nextToken_136 : decode cX12_nextToken 136 = .ok (.getfield 220, 3) := by decide +kernel
theorem dX12_nextToken_139 : decode cX12_nextToken 139 = .ok (.aload_n 0, 1) := by decide +kernel
theorem dX12_nextToken_140 : decode cX12_nextToken 140 = .ok (.getfield 223, 3) := by decide +kernel
theorem dX12_nextToken_143 : decode cX12_nextToken 143 = .ok (.isub, 1) := by decide +kernel
theorem dX12_nextToken_144 : decode cX12_nextToken 144 = .ok (.bipush 8, 2) := by decide +kernel
theorem dX12_nextToken_146 : decode cX12_nextToken 146 = .ok (.if_icmp .ge 29, 3) := by decide +kernel
theorem dX12_nextToken_149 : decode cX12_nextToken 149 = .ok (.aload_n 0, 1) := by decide +kernel
theorem dX12_nextToken_150 : decode cX12_nextToken 150 = .ok (.aload_n 0, 1) := by decide +kernel
theorem dX12_nextToken_151 : decode cX12_nextToken 151 = .ok (.getfield 226, 3) := by decide +kernel
theorem dX12_nextToken_154 : decode cX12_nextToken 154 = .ok (.ldc2_w 240, 3) := by decide +kernel
theorem dX12_nextToken_157 : decode cX12_nextToken 157 = .ok (.lmul, 1) := by decide +kernel
theorem dX12_nextToken_158 : decode cX12_nextToken 158 = .ok (.aload_n 0, 1) := by decide +kernel
theorem dX12_nextToken_159 : decode cX12_nextToken 159 = .ok (.aload_n 0, 1) := by decide +kernel
theorem dX12_nextToken_160 : decode cX12_nextToken 160 = .ok (.getfield 220, 3) := by decide +kernel
theorem dX12_nextToken_163 : decode cX12_nextToken 163 = .ok (.invokevirtual 236, 3) := by decide +kernel
theorem dX12_nextToken_166 : decode cX12_nextToken 166 = .ok (.i2l, 1) := by decide +kernel
theorem dX12_nextToken_167 : decode cX12_nextToken 167 = .ok (.ladd, 1) := by decide +kernel
theorem dX12_nextToken_168 : decode cX12_nextToken 168 = .ok (.ldc2_w 242, 3) := by decide +kernel
theorem dX12_nextToken_171 : decode cX12_nextToken 171 = .ok (.lsub, 1) := by decide +kernel
theorem dX12_nextToken_172 : decode cX12_nextToken 172 = .ok (.putfield 226, 3) := by decide +kernel
theorem dX12_nextToken_175 : decode cX12_nextToken 175 = .ok (.aload_n 0, 1) := by decide +kernel
theorem dX12_nextToken_176 : decode cX12_nextToken 176 = .ok (.dup, 1) := by decide +kernel
theorem dX12_nextToken_177 : decode cX12_nextToken 177 = .ok (.getfield 220, 3) := by decide +kernel
theorem dX12_nextToken_180 : decode cX12_nextToken 180 = .ok (.iconst 1, 1) := by decide +kernel
theorem dX12_nextToken_181 : decode cX12_nextToken 181 = .ok (.iadd, 1) := by decide +kernel
theorem dX12_nextToken_182 : decode cX12_nextToken 182 = .ok (.putfield 220, 3) := by decide +kernel
theorem dX12_nextToken_185 : decode cX12_nextToken 185 = .ok (.goto (-76), 3) := by decide +kernel
theorem dX12_nextToken_188 : decode cX12_nextToken 188 = .ok (.aload_n 0, 1) := by decide +kernel
theorem dX12_nextToken_189 : decode cX12_nextToken 189 = .ok (.aload_n 0, 1) := by decide +kernel
theorem dX12_nextToken_190 : decode cX12_nextToken 190 = .ok (.getfield 220, 3) := by decide +kernel
theorem dX12_nextToken_193 : decode cX12_nextToken 193 = .ok (.aload_n 0, 1) := by decide +kernel
theorem dX12_nextToken_194 : decode cX12_nextToken 194 = .ok (.getfield 223, 3) := by decide +kernel
theorem dX12_nextToken_197 : decode cX12_nextToken 197 = .ok (.isub, 1) := by decide +kernel
theorem dX12_nextToken_198 : decode cX12_nextToken 198 = .ok (.bipush 8, 2) := by decide +kernel
theorem dX12_nextToken_200 : decode cX12_nextToken 200 = .ok (.if_icmp .le 7, 3) := by decide +kernel
theorem dX12_nextToken_203 : decode cX12_nextToken 203 = .ok (.iconst 4, 1) := by decide +kernel
theorem dX12_nextToken_204 : decode cX12_nextToken 204 = .ok (.goto 4, 3) := by decide +kernel
theorem dX12_nextToken_207 : decode cX12_nextToken 207 = .ok (.iconst 1, 1) := by decide +kernel
theorem dX12_nextToken_208 : decode cX12_nextToken 208 = .ok (.putfield 233, 3) := by decide +kernel
theorem dX12_nextToken_211 : decode cX12_nextToken 211 = .ok (.return_, 1) := by decide +kernel
theorem dX12_nextToken_212 : decode cX12_nextToken 212 = .ok (.iload_n 1, 1) := by decide +kernel
theorem dX12_nextToken_213 : decode cX12_nextToken 213 = .ok (.bipush 48, 2) := by decide +kernel
theorem dX12_nextToken_215 : decode cX12_nextToken 215 = .ok (.if_icmp .lt 107, 3) := by decide +kernel
theorem dX12_nextToken_218 : decode cX12_nextToken 218 = .ok (.iload_n 1, 1) := by decide +kernel
theorem dX12_nextToken_219 : decode cX12_nextToken 219 = .ok (.bipush 57, 2) := by decide +kernel
theorem dX12_nextToken_221 : decode cX12_nextToken 221 = .ok (.if_icmp .gt 101, 3) := by decide +kernel
theorem dX12_nextToken_224 : decode cX12_nextToken 224 = .ok (.aload_n 0, 1) := by decide +kernel
theorem dX12_nextToken_225 : decode cX12_nextToken 225 = .ok (.aload_n 0, 1) := by decide +kernel
theorem dX12_nextToken_226 : decode cX12_nextToken 226 = .ok (.getfield 220, 3) := by decide +kernel
theorem dX12_nextToken_229 : decode cX12_nextToken 229 = .ok (.invokevirtual 236, 3) := by decide +kernel
theorem dX12_nextToken_232 : decode cX12_nextToken 232 = .ok (.bipush 48, 2) := by decide +kernel
theorem dX12_nextToken_234 : decode cX12_nextToken 234 = .ok (.if_icmp .lt 65, 3) := by decide +kernel
theorem dX12_nextToken_237 : decode cX12_nextToken 237 = .ok (.aload_n 0, 1) := by decide +kernel
theorem dX12_nextToken_238 : decode cX12_nextToken 238 = .ok (.aload_n 0, 1) := by decide +kernel
theorem dX12_nextToken_239 : decode cX12_nextToken 239 = .ok (.getfield 220, 3) := by decide +kernel
theorem dX12_nextToken_242 : decode cX12_nextToken 242 = .ok (.invokevirtual 236, 3) := by decide +kernel
theorem dX12_nextToken_245 : decode cX12_nextToken 245 = .ok (.bipush 57, 2) := by decide +kernel
theorem dX12_nextToken_247 : decode cX12_nextToken 247 = .ok (.if_icmp .gt 52, 3) := by decide +kernel
theorem dX12_nextToken_250 : decode cX12_nextToken 250 = .ok (.aload_n 0, 1) := by decide +kernel
theorem dX12_nextToken_251 : decode cX12_nextToken 251 = .ok (.getfield 220, 3) := by decide +kernel
theorem dX12_nextToken_254 : decode cX12_nextToken 254 = .ok (.aload_n 0, 1) := by decide +kernel
theorem dX12_nextToken_255 : decode cX12_nextToken 255 = .ok (.getfield 223, 3) := by decide +kernel
theorem dX12_nextToken_258 : decode cX12_nextToken 258 = .ok (.isub, 1) := by decide +kernel
theorem dX12_nextToken_259 : decode cX12_nextToken 259 = .ok (.iconst 4, 1) := by decide +kernel
theorem dX12_nextToken_260 : decode cX12_nextToken 260 = .ok (.if_icmp .ge 26, 3) := by decide +kernel
theorem dX12_nextToken_263 : decode cX12_nextToken 263 = .ok (.aload_n 0, 1) := by decide +kernel
theorem dX12_nextToken_264 : decode cX12_nextToken 264 = .ok (.aload_n 0, 1) := by decide +kernel
theorem dX12_nextToken_265 : decode cX12_nextToken 265 = .ok (.getfield 230, 3) := by decide +kernel
theorem dX12_nextToken_268 : decode cX12_nextToken 268 = .ok (.bipush 10, 2) := by decide +kernel
theorem dX12_nextToken_270 : decode cX12_nextToken 270 = .ok (.imul, 1) := by decide +kernel
theorem dX12_nextToken_271 : decode cX12_nextToken 271 = .ok (.aload_n 0, 1) := by decide +kernel
theorem dX12_nextToken_272 : decode cX12_nextToken 272 = .ok (.aload_n 0, 1) := by decide +kernel
theorem dX12_nextToken_273 : decode cX12_nextToken 273 = .ok (.getfield 220, 3) := by decide +kernel
theorem dX12_nextToken_276 : decode cX12_nextToken 276 = .ok (.invokevirtual 236, 3) := by decide +kernel
theorem dX12_nextToken_279 : decode cX12_nextToken 279 = .ok (.iadd, 1) := by decide +kernel
theorem dX12_nextToken_280 : decode cX12_nextToken 280 = .ok (.bipush 48, 2) := by decide +kernel
theorem dX12_nextToken_282 : decode cX12_nextToken 282 = .ok (.isub, 1) := by decide +kernel
theorem dX12_nextToken_283 : decode cX12_nextToken 283 = .ok (.putfield 230, 3) := by decide +kernel
theorem dX12_nextToken_286 : decode cX12_nextToken 286 = .ok (.aload_n 0, 1) := by decide +kernel
theorem dX12_nextToken_287 : decode cX12_nextToken 287 = .ok (.dup, 1) := by decide +kernel
theorem dX12_nextToken_288 : decode cX12_nextToken 288 = .ok (.getfield 220, 3) := by decide +kernel
theorem dX12_nextToken_291 : decode cX12_nextToken 291 = .ok (.iconst 1, 1) := by decide +kernel
theorem dX12_nextToken_292 : decode cX12_nextToken 292 = .ok (.iadd, 1) := by decide +kernel
theorem dX12_nextToken_293 : decode cX12_nextToken 293 = .ok (.putfield 220, 3) := by decide +kernel
theorem dX12_nextToken_296 : decode cX12_nextToken 296 = .ok (.goto (-72), 3) := by decide +kernel
theorem dX12_nextToken_299 : decode cX12_nextToken 299 = .ok (.aload_n 0, 1) := by decide +kernel
theorem dX12_nextToken_300 : decode cX12_nextToken 300 = .ok (.aload_n 0, 1) := by decide +kernel
theorem dX12_nextToken_301 : decode cX12_nextToken 301 = .ok (.getfield 220, 3) := by decide +kernel
theorem dX12_nextToken_304 : decode cX12_nextToken 304 = .ok (.aload_n 0, 1) := by decide +kernel
theorem dX12_nextToken_305 : decode cX12_nextToken 305 = .ok (.getfield 223, 3) := by decide +kernel
theorem dX12_nextToken_308 : decode cX12_nextToken 308 = .ok (.isub, 1) := by decide +kernel
theorem dX12_nextToken_309 : decode cX12_nextToken 309 = .ok (.iconst 4, 1) := by decide +kernel
theorem dX12_nextToken_310 : decode cX12_nextToken 310 = .ok (.if_icmp .le 7, 3) := by decide +kernel
theorem dX12_nextToken_313 : decode cX12_nextToken 313 = .ok (.iconst 4, 1) := by decide +kernel
theorem dX12_nextToken_314 : decode cX12_nextToken 314 = .ok (.goto 4, 3) := by decide +kernel
theorem dX12_nextToken_317 : decode cX12_nextToken 317 = .ok (.iconst 2, 1) := by decide +kernel
theorem dX12_nextToken_318 : decode cX12_nextToken 318 = .ok (.putfield 233, 3) := by decide +kernel
theorem dX12_nextToken_321 : decode cX12_nextToken 321 = .ok (.return_, 1) := by decide +kernel
theorem dX12_nextToken_322 : decode cX12_nextToken 322 = .ok (.aload_n 0, 1) := by decide +kernel
theorem dX12_nextToken_323 : decode cX12_nextToken 323 = .ok (.dup, 1) := by decide +kernel
theorem dX12_nextToken_324 : decode cX12_nextToken 324 = .ok (.getfield 220, 3) := by decide +kernel
theorem dX12_nextToken_327 : decode cX12_nextToken 327 = .ok (.iconst 1, 1) := by decide +kernel
theorem dX12_nextToken_328 : decode cX12_nextToken 328 = .ok (.iadd, 1) := by decide +kernel
theorem dX12_nextToken_329 : decode cX12_nextToken 329 = .ok (.putfield 220, 3) := by decide +kernel
theorem dX12_nextToken_332 : decode cX12_nextToken 332 = .ok (.aload_n 0, 1) := by decide +kernel
theorem dX12_nextToken_333 : decode cX12_nextToken 333 = .ok (.iload_n 1, 1) := by decide +kernel
theorem dX12_nextToken_334 : decode cX12_nextToken 334 = .ok (.bipush 40, 2) := by decide +kernel
theorem dX12_nextToken_336 : decode cX12_nextToken 336 = .ok (.if_icmp .lt 9, 3) := by decide +kernel
theorem dX12_nextToken_339 : decode cX12_nextToken 339 = .ok (.iload_n 1, 1) := by decide +kernel
theorem dX12_nextToken_340 : decode cX12_nextToken 340 = .ok (.bipush 43, 2) := by decide +kernel
theorem dX12_nextToken_342 : decode cX12_nextToken 342 = .ok (.if_icmp .le 21, 3) := by decide +kernel
theorem dX12_nextToken_345 : decode cX12_nextToken 345 = .ok (.iload_n 1, 1) := by decide +kernel
theorem dX12_nextToken_346 : decode cX12_nextToken 346 = .ok (.bipush 45, 2) := by decide +kernel
theorem dX12_nextToken_348 : decode cX12_nextToken 348 = .ok (.if_icmp .eq 15, 3) := by decide +kernel
theorem dX12_nextToken_351 : decode cX12_nextToken 351 = .ok (.iload_n 1, 1) := by decide +kernel
theorem dX12_nextToken_352 : decode cX12_nextToken 352 = .ok (.bipush 59, 2) := by decide +kernel
theorem dX12_nextToken_354 : decode cX12_nextToken 354 = .ok (.if_icmp .lt 13, 3) := by decide +kernel
theorem dX12_nextToken_357 : decode cX12_nextToken 357 = .ok (.iload_n 1, 1) := by decide +kernel
theorem dX12_nextToken_358 : decode cX12_nextToken 358 = .ok (.bipush 61, 2) := by decide +kernel
theorem dX12_nextToken_360 : decode cX12_nextToken 360 = .ok (.if_icmp .gt 7, 3) := by decide +kernel
theorem dX12_nextToken_363 : decode cX12_nextToken 363 = .ok (.iconst 3, 1) := by decide +kernel
theorem dX12_nextToken_364 : decode cX12_nextToken 364 = .ok (.goto 4, 3) := by decide +kernel
theorem dX12_nextToken_367 : decode cX12_nextToken 367 = .ok (.iconst 4, 1) := by decide +kernel
theorem dX12_nextToken_368 : decode cX12_nextToken 368 = .ok (.putfield 233, 3) := by decide +kernel
theorem dX12_nextToken_371 : decode cX12_nextToken 371 = .ok (.return_, 1) := by decide +kernel
def F_X12_nextToken_b39 (N : Nat) (rc0 : PH → Option PH) (h : PH) : Option PH :=
  hb (hs h 103 5 ((h.1 103 5) + (1 : Int32))) fun h1 =>
  rc0  h1
set_option maxRecDepth 20000 in
set_option maxHeartbeats 4000000 in
theorem T_X12_nextToken_b39 {X : CT} (C : CX X 154 cX12_nextToken 2 RX12 none 1 21) {h0 : PH} {N : Nat} {rc0 : PH → Option PH} (hr0 : ∀ (h : PH), rc0  h = some h0 → V X (QV X h0) h 0 [some (.ref 103), none] []) : ∀ (h : PH), F_X12_nextToken_b39 N rc0  h = some h0 → V X (QV X h0) h 39 [some (.ref 103), none] [] := by
  intro  h hyp
  unfold F_X12_nextToken_b39 at hyp
  refine V_aload_n (pc := 39) C dX12_nextToken_39 rfl ?_
  refine V_dup (pc := 40) C dX12_nextToken_40 rfl ?_
  refine V_getI (pc := 41) C dX12_nextToken_41 lf_X12_220 fk_103_5 ?_
  refine V_iconst (pc := 44) C dX12_nextToken_44 (v := 1) (by decide) ?_
  refine V_iadd (pc := 45) C dX12_nextToken_45 ?_
  obtain ⟨h1, eh1, hyp⟩ := hb_n hyp
  refine V_putI (pc := 46) C dX12_nextToken_46 lf_X12_220 fk_103_5 rfl rfl eh1 ?_
  refine V_goto (pc := 49) C dX12_nextToken_49 (tgt := 0) (by decide) ?_
  refine V_weak (lv' := [some (.ref 103), none]) (lvle_s (lvle_n lvle_0)) ?_
  exact hr0 h1 hyp
def F_X12_nextToken_b175 (N : Nat) (rc109 : PH → Option PH) (h : PH) : Option PH :=
  hb (hs h 103 5 ((h.1 103 5) + (1 : Int32))) fun h1 =>
  rc109  h1
set_option maxRecDepth 20000 in
set_option maxHeartbeats 4000000 in
theorem T_X12_nextToken_b175 {X : CT} (C : CX X 154 cX12_nextToken 2 RX12 none 1 21) {h0 : PH} {N : Nat} {rc109 : PH → Option PH} (hr109 : ∀ (h : PH), rc109  h = some h0 → V X (QV X h0) h 109 [some (.ref 103), none] []) : ∀ (h : PH), F_X12_nextToken_b175 N rc109  h = some h0 → V X (QV X h0) h 175 [some (.ref 103), none] [] := by
  intro  h hyp
  unfold F_X12_nextToken_b175 at hyp
  refine V_aload_n (pc := 175) C dX12_nextToken_175 rfl ?_
  refine V_dup (pc := 176) C dX12_nextToken_176 rfl ?_
  refine V_getI (pc := 177) C dX12_nextToken_177 lf_X12_220 fk_103_5 ?_
  refine V_iconst (pc := 180) C dX12_nextToken_180 (v := 1) (by decide) ?_
  refine V_iadd (pc := 181) C dX12_nextToken_181 ?_
  obtain ⟨h1, eh1, hyp⟩ := hb_n hyp
  refine V_putI (pc := 182) C dX12_nextToken_182 lf_X12_220 fk_103_5 rfl rfl eh1 ?_
  refine V_goto (pc := 185) C dX12_nextToken_185 (tgt := 109) (by decide) ?_
  refine V_weak (lv' := [some (.ref 103), none]) (lvle_s (lvle_n lvle_0)) ?_
  exact hr109 h1 hyp
def F_X12_nextToken_b208 (N : Nat) (s0 : Int32) (h : PH) : Option PH :=
  hb (hs h 103 7 s0) fun h1 =>
  some h1
set_option maxRecDepth 20000 in
set_option maxHeartbeats 4000000 in
theorem T_X12_nextToken_b208 {X : CT} (C : CX X 154 cX12_nextToken 2 RX12 none 1 21) {h0 : PH} {N : Nat} : ∀ (s0 : Int32) (h : PH), F_X12_nextToken_b208 N s0 h = some h0 → V X (QV X h0) h 208 [none, none] [.int s0, .ref 103] := by
  intro s0 h hyp
  unfold F_X12_nextToken_b208 at hyp
  obtain ⟨h1, eh1, hyp⟩ := hb_n hyp
  refine V_putI (pc := 208) C dX12_nextToken_208 lf_X12_233 fk_103_7 rfl rfl eh1 ?_
  cases hyp
  exact V_vret C dX12_nextToken_211
def F_X12_nextToken_b188 (N : Nat) (h : PH) : Option PH :=
  if ((h.1 103 5) - (h.1 103 6)) ≤ (8 : Int32) then
    F_X12_nextToken_b208 N (1 : Int32) h
  else
    F_X12_nextToken_b208 N (4 : Int32) h
set_option maxRecDepth 20000 in
set_option maxHeartbeats 4000000 in
theorem T_X12_nextToken_b188 {X : CT} (C : CX X 154 cX12_nextToken 2 RX12 none 1 21) {h0 : PH} {N : Nat} : ∀ (h : PH), F_X12_nextToken_b188 N  h = some h0 → V X (QV X h0) h 188 [some (.ref 103), none] [] := by
  intro  h hyp
  unfold F_X12_nextToken_b188 at hyp
  refine V_aload_n (pc := 188) C dX12_nextToken_188 rfl ?_
  refine V_aload_n (pc := 189) C dX12_nextToken_189 rfl ?_
  refine V_getI (pc := 190) C dX12_nextToken_190 lf_X12_220 fk_103_5 ?_
  refine V_aload_n (pc := 193) C dX12_nextToken_193 rfl ?_
  refine V_getI (pc := 194) C dX12_nextToken_194 lf_X12_223 fk_103_6 ?_
  refine V_isub (pc := 197) C dX12_nextToken_197 ?_
  refine V_bipush (pc := 198) C dX12_nextToken_198 (v := 8) (by decide) ?_
  refine V_icmp_le (pc := 200) C dX12_nextToken_200 (tgt := 207) (by decide) (fun q1 => ?_) (fun q1 => ?_)
  · replace hyp := (if_pos q1).symm.trans hyp
    refine V_iconst (pc := 207) C dX12_nextToken_207 (v := 1) (by decide) ?_
    refine V_weak (lv' := [none, none]) (lvle_n (lvle_n lvle_0)) ?_
    exact (T_X12_nextToken_b208 C) (1 : Int32) h hyp
  · replace hyp := (if_neg q1).symm.trans hyp
    refine V_iconst (pc := 203) C dX12_nextToken_203 (v := 4) (by decide) ?_
    refine V_goto (pc := 204) C dX12_nextToken_204 (tgt := 208) (by decide) ?_
    refine V_weak (lv' := [none, none]) (lvle_n (lvle_n lvle_0)) ?_
    exact (T_X12_nextToken_b208 C) (4 : Int32) h hyp
def F_X12_nextToken_b109 (N : Nat) : Nat → PH → Option PH
  | 0, _ => none
  | n + 1, h =>
    bI (F_X12_signAt (h.1 103 5) h) fun r1 h2 =>
    if r1 < (97 : Int32) then
      F_X12_nextToken_b188 N  h2
    else
      bI (F_X12_signAt (h2.1 103 5) h2) fun r4 h5 =>
      if (122 : Int32) < r4 then
        F_X12_nextToken_b188 N  h5
      else
        if (8 : Int32) ≤ ((h5.1 103 5) - (h5.1 103 6)) then
          F_X12_nextToken_b175 N (F_X12_nextToken_b109 N n)  h5
        else
          bI (F_X12_signAt (h5.1 103 5) h5) fun r8 h9 =>
          hb (hsL h9 103 8 ((((h5.2 103 8) * (27 : Int64)) + r8.toInt64) - (96 : Int64))) fun h10 =>
          F_X12_nextToken_b175 N (F_X12_nextToken_b109 N n)  h10
set_option maxRecDepth 20000 in
set_option maxHeartbeats 4000000 in
theorem T_X12_nextToken_b109 {X : CT} (C : CX X 154 cX12_nextToken 2 RX12 none 1 21) {h0 : PH} {N : Nat} : ∀ (n : Nat) (h : PH), F_X12_nextToken_b109 N n  h = some h0 → V X (QV X h0) h 109 [some (.ref 103), none] [] := by
  intro n
  induction n with
  | zero =>
    intro  h hyp
    cases hyp
  | succ n ih =>
    intro  h hyp
    unfold F_X12_nextToken_b109 at hyp
    refine V_aload_n (pc := 109) C dX12_nextToken_109 rfl ?_
    refine V_aload_n (pc := 110) C dX12_nextToken_110 rfl ?_
    refine V_getI (pc := 111) C dX12_nextToken_111 lf_X12_220 fk_103_5 ?_
    obtain ⟨r1, h2, eh2, hyp⟩ := bI_n hyp
    refine V_callI (pc := 114) C dX12_nextToken_114 lm_X12_236 mk_X12_signAt ok_103 rfl (M_X12_signAt _ eh2) rfl pd_X12_signAt (by decide) (by decide) (by decide) (As := [.int (h.1 103 5)]) (rest := []) rfl (Nat.le_of_ble_eq_true rfl) ?_
    refine V_bipush (pc := 117) C dX12_nextToken_117 (v := 97) (by decide) ?_
    refine V_icmp_lt (pc := 119) C dX12_nextToken_119 (tgt := 188) (by decide) (fun q3 => ?_) (fun q3 => ?_)
    · replace hyp := (if_pos q3).symm.trans hyp
      refine V_weak (lv' := [some (.ref 103), none]) (lvle_s (lvle_n lvle_0)) ?_
      exact (T_X12_nextToken_b188 C) h2 hyp
    · replace hyp := (if_neg q3).symm.trans hyp
      refine V_aload_n (pc := 122) C dX12_nextToken_122 rfl ?_
      refine V_aload_n (pc := 123) C dX12_nextToken_123 rfl ?_
      refine V_getI (pc := 124) C dX12_nextToken_124 lf_X12_220 fk_103_5 ?_
      obtain ⟨r4, h5, eh5, hyp⟩ := bI_n hyp
      refine V_callI (pc := 127) C dX12_nextToken_127 lm_X12_236 mk_X12_signAt ok_103 rfl (M_X12_signAt _ eh5) rfl pd_X12_signAt (by decide) (by decide) (by decide) (As := [.int (h2.1 103 5)]) (rest := []) rfl (Nat.le_of_ble_eq_true rfl) ?_
      refine V_bipush (pc := 130) C dX12_nextToken_130 (v := 122) (by decide) ?_
      refine V_icmp_gt (pc := 132) C dX12_nextToken_132 (tgt := 188) (by decide) (fun q6 => ?_) (fun q6 => ?_)
      · replace hyp := (if_pos q6).symm.trans hyp
        refine V_weak (lv' := [some (.ref 103), none]) (lvle_s (lvle_n lvle_0)) ?_
        exact (T_X12_nextToken_b188 C) h5 hyp
      · replace hyp := (if_neg q6).symm.trans hyp
        refine V_aload_n (pc := 135) C dX12_nextToken_135 rfl ?_
        refine V_getI (pc := 136) C dX12_nextToken_136 lf_X12_220 fk_103_5 ?_
        refine V_aload_n (pc := 139) C dX12_nextToken_139 rfl ?_
        refine V_getI (pc := 140) C dX12_nextToken_140 lf_X12_223 fk_103_6 ?_
        refine V_isub (pc := 143) C dX12_nextToken_143 ?_
        refine V_bipush (pc := 144) C dX12_nextToken_144 (v := 8) (by decide) ?_
        refine V_icmp_ge (pc := 146) C dX12_nextToken_146 (tgt := 175) (by decide) (fun q7 => ?_) (fun q7 => ?_)
        · replace hyp := (if_pos q7).symm.trans hyp
          refine V_weak (lv' := [some (.ref 103), none]) (lvle_s (lvle_n lvle_0)) ?_
          exact (T_X12_nextToken_b175 C ih) h5 hyp
        · replace hyp := (if_neg q7).symm.trans hyp
          refine V_aload_n (pc := 149) C dX12_nextToken_149 rfl ?_
          refine V_aload_n (pc := 150) C dX12_nextToken_150 rfl ?_
          refine V_getL (pc := 151) C dX12_nextToken_151 lf_X12_226 fk_103_8 ?_
          refine V_ldc2 (pc := 154) C dX12_nextToken_154 ll_X12_240 ?_
          refine V_lmul (pc := 157) C dX12_nextToken_157 ?_
          refine V_aload_n (pc := 158) C dX12_nextToken_158 rfl ?_
          refine V_aload_n (pc := 159) C dX12_nextToken_159 rfl ?_
          refine V_getI (pc := 160) C dX12_nextToken_160 lf_X12_220 fk_103_5 ?_
          obtain ⟨r8, h9, eh9, hyp⟩ := bI_n hyp
          refine V_callI (pc := 163) C dX12_nextToken_163 lm_X12_236 mk_X12_signAt ok_103 rfl (M_X12_signAt _ eh9) rfl pd_X12_signAt (by decide) (by decide) (by decide) (As := [.int (h5.1 103 5)]) (rest := [.long ((h5.2 103 8) * (27 : Int64)), .ref 103]) rfl (Nat.le_of_ble_eq_true rfl) ?_
          refine V_i2l (pc := 166) C dX12_nextToken_166 ?_
          refine V_ladd (pc := 167) C dX12_nextToken_167 ?_
          refine V_ldc2 (pc := 168) C dX12_nextToken_168 ll_X12_242 ?_
          refine V_lsub (pc := 171) C dX12_nextToken_171 ?_
          obtain ⟨h10, eh10, hyp⟩ := hb_n hyp
          refine V_putL (pc := 172) C dX12_nextToken_172 lf_X12_226 fk_103_8 rfl rfl eh10 ?_
          refine V_weak (lv' := [some (.ref 103), none]) (lvle_s (lvle_n lvle_0)) ?_
          exact (T_X12_nextToken_b175 C ih) h10 hyp
def F_X12_nextToken_b286 (N : Nat) (rc224 : PH → Option PH) (h : PH) : Option PH :=
  hb (hs h 103 5 ((h.1 103 5) + (1 : Int32))) fun h1 =>
  rc224  h1
set_option maxRecDepth 20000 in
set_option maxHeartbeats 4000000 in
theorem T_X12_nextToken_b286 {X : CT} (C : CX X 154 cX12_nextToken 2 RX12 none 1 21) {h0 : PH} {N : Nat} {rc224 : PH → Option PH} (hr224 : ∀ (h : PH), rc224  h = some h0 → V X (QV X h0) h 224 [some (.ref 103), none] []) : ∀ (h : PH), F_X12_nextToken_b286 N rc224  h = some h0 → V X (QV X h0) h 286 [some (.ref 103), none] [] := by
  intro  h hyp
  unfold F_X12_nextToken_b286 at hyp
  refine V_aload_n (pc := 286) C dX12_nextToken_286 rfl ?_
  refine V_dup (pc := 287) C dX12_nextToken_287 rfl ?_
  refine V_getI (pc := 288) C dX12_nextToken_288 lf_X12_220 fk_103_5 ?_
  refine V_iconst (pc := 291) C dX12_nextToken_291 (v := 1) (by decide) ?_
  refine V_iadd (pc := 292) C dX12_nextToken_292 ?_
  obtain ⟨h1, eh1, hyp⟩ := hb_n hyp
  refine V_putI (pc := 293) C dX12_nextToken_293 lf_X12_220 fk_103_5 rfl rfl eh1 ?_
  refine V_goto (pc := 296) C dX12_nextToken_296 (tgt := 224) (by decide) ?_
  refine V_weak (lv' := [some (.ref 103), none]) (lvle_s (lvle_n lvle_0)) ?_
  exact hr224 h1 hyp
def F_X12_nextToken_b318 (N : Nat) (s0 : Int32) (h : PH) : Option PH :=
  hb (hs h 103 7 s0) fun h1 =>
  some h1
set_option maxRecDepth 20000 in
set_option maxHeartbeats 4000000 in
theorem T_X12_nextToken_b318 {X : CT} (C : CX X 154 cX12_nextToken 2 RX12 none 1 21) {h0 : PH} {N : Nat} : ∀ (s0 : Int32) (h : PH), F_X12_nextToken_b318 N s0 h = some h0 → V X (QV X h0) h 318 [none, none] [.int s0, .ref 103] := by
  intro s0 h hyp
  unfold F_X12_nextToken_b318 at hyp
  obtain ⟨h1, eh1, hyp⟩ := hb_n hyp
  refine V_putI (pc := 318) C dX12_nextToken_318 lf_X12_233 fk_103_7 rfl rfl eh1 ?_
  cases hyp
  exact V_vret C dX12_nextToken_321
def F_X12_nextToken_b299 (N : Nat) (h : PH) : Option PH :=
  if ((h.1 103 5) - (h.1 103 6)) ≤ (4 : Int32) then
    F_X12_nextToken_b318 N (2 : Int32) h
  else
    F_X12_nextToken_b318 N (4 : Int32) h
set_option maxRecDepth 20000 in
set_option maxHeartbeats 4000000 in
theorem T_X12_nextToken_b299 {X : CT} (C : CX X 154 cX12_nextToken 2 RX12 none 1 21) {h0 : PH} {N : Nat} : ∀ (h : PH), F_X12_nextToken_b299 N  h = some h0 → V X (QV X h0) h 299 [some (.ref 103), none] [] := by
  intro  h hyp
  unfold F_X12_nextToken_b299 at hyp
  refine V_aload_n (pc := 299) C dX12_nextToken_299 rfl ?_
  refine V_aload_n (pc := 300) C dX12_nextToken_300 rfl ?_
  refine V_getI (pc := 301) C dX12_nextToken_301 lf_X12_220 fk_103_5 ?_
  refine V_aload_n (pc := 304) C dX12_nextToken_304 rfl ?_
  refine V_getI (pc := 305) C dX12_nextToken_305 lf_X12_223 fk_103_6 ?_
  refine V_isub (pc := 308) C dX12_nextToken_308 ?_
  refine V_iconst (pc := 309) C dX12_nextToken_309 (v := 4) (by decide) ?_
  refine V_icmp_le (pc := 310) C dX12_nextToken_310 (tgt := 317) (by decide) (fun q1 => ?_) (fun q1 => ?_)
  · replace hyp := (if_pos q1).symm.trans hyp
    refine V_iconst (pc := 317) C dX12_nextToken_317 (v := 2) (by decide) ?_
    refine V_weak (lv' := [none, none]) (lvle_n (lvle_n lvle_0)) ?_
    exact (T_X12_nextToken_b318 C) (2 : Int32) h hyp
  · replace hyp := (if_neg q1).symm.trans hyp
    refine V_iconst (pc := 313) C dX12_nextToken_313 (v := 4) (by decide) ?_
    refine V_goto (pc := 314) C dX12_nextToken_314 (tgt := 318) (by decide) ?_
    refine V_weak (lv' := [none, none]) (lvle_n (lvle_n lvle_0)) ?_
    exact (T_X12_nextToken_b318 C) (4 : Int32) h hyp
def F_X12_nextToken_b224 (N : Nat) : Nat → PH → Option PH
  | 0, _ => none
  | n + 1, h =>
    bI (F_X12_signAt (h.1 103 5) h) fun r1 h2 =>
    if r1 < (48 : Int32) then
      F_X12_nextToken_b299 N  h2
    else
      bI (F_X12_signAt (h2.1 103 5) h2) fun r4 h5 =>
      if (57 : Int32) < r4 then
        F_X12_nextToken_b299 N  h5
      else
        if (4 : Int32) ≤ ((h5.1 103 5) - (h5.1 103 6)) then
          F_X12_nextToken_b286 N (F_X12_nextToken_b224 N n)  h5
        else
          bI (F_X12_signAt (h5.1 103 5) h5) fun r8 h9 =>
          hb (hs h9 103 9 ((((h5.1 103 9) * (10 : Int32)) + r8) - (48 : Int32))) fun h10 =>
          F_X12_nextToken_b286 N (F_X12_nextToken_b224 N n)  h10
set_option maxRecDepth 20000 in
set_option maxHeartbeats 4000000 in
theorem T_X12_nextToken_b224 {X : CT} (C : CX X 154 cX12_nextToken 2 RX12 none 1 21) {h0 : PH} {N : Nat} : ∀ (n : Nat) (h : PH), F_X12_nextToken_b224 N n  h = some h0 → V X (QV X h0) h 224 [some (.ref 103), none] [] := by
  intro n
  induction n with
  | zero =>
    intro  h hyp
    cases hyp
  | succ n ih =>
    intro  h hyp
    unfold F_X12_nextToken_b224 at hyp
    refine V_aload_n (pc := 224) C dX12_nextToken_224 rfl ?_
    refine V_aload_n (pc := 225) C dX12_nextToken_225 rfl ?_
    refine V_getI (pc := 226) C dX12_nextToken_226 lf_X12_220 fk_103_5 ?_
    obtain ⟨r1, h2, eh2, hyp⟩ := bI_n hyp
    refine V_callI (pc := 229) C dX12_nextToken_229 lm_X12_236 mk_X12_signAt ok_103 rfl (M_X12_signAt _ eh2) rfl pd_X12_signAt (by decide) (by decide) (by decide) (As := [.int (h.1 103 5)]) (rest := []) rfl (Nat.le_of_ble_eq_true rfl) ?_
    refine V_bipush (pc := 232) C dX12_nextToken_232 (v := 48) (by decide) ?_
    refine V_icmp_lt (pc := 234) C dX12_nextToken_234 (tgt := 299) (by decide) (fun q3 => ?_) (fun q3 => ?_)
    · replace hyp := (if_pos q3).symm.trans hyp
      refine V_weak (lv' := [some (.ref 103), none]) (lvle_s (lvle_n lvle_0)) ?_
      exact (T_X12_nextToken_b299 C) h2 hyp
    · replace hyp := (if_neg q3).symm.trans hyp
      refine V_aload_n (pc := 237) C dX12_nextToken_237 rfl ?_
      refine V_aload_n (pc := 238) C dX12_nextToken_238 rfl ?_
      refine V_getI (pc := 239) C dX12_nextToken_239 lf_X12_220 fk_103_5 ?_
      obtain ⟨r4, h5, eh5, hyp⟩ := bI_n hyp
      refine V_callI (pc := 242) C dX12_nextToken_242 lm_X12_236 mk_X12_signAt ok_103 rfl (M_X12_signAt _ eh5) rfl pd_X12_signAt (by decide) (by decide) (by decide) (As := [.int (h2.1 103 5)]) (rest := []) rfl (Nat.le_of_ble_eq_true rfl) ?_
      refine V_bipush (pc := 245) C dX12_nextToken_245 (v := 57) (by decide) ?_
      refine V_icmp_gt (pc := 247) C dX12_nextToken_247 (tgt := 299) (by decide) (fun q6 => ?_) (fun q6 => ?_)
      · replace hyp := (if_pos q6).symm.trans hyp
        refine V_weak (lv' := [some (.ref 103), none]) (lvle_s (lvle_n lvle_0)) ?_
        exact (T_X12_nextToken_b299 C) h5 hyp
      · replace hyp := (if_neg q6).symm.trans hyp
        refine V_aload_n (pc := 250) C dX12_nextToken_250 rfl ?_
        refine V_getI (pc := 251) C dX12_nextToken_251 lf_X12_220 fk_103_5 ?_
        refine V_aload_n (pc := 254) C dX12_nextToken_254 rfl ?_
        refine V_getI (pc := 255) C dX12_nextToken_255 lf_X12_223 fk_103_6 ?_
        refine V_isub (pc := 258) C dX12_nextToken_258 ?_
        refine V_iconst (pc := 259) C dX12_nextToken_259 (v := 4) (by decide) ?_
        refine V_icmp_ge (pc := 260) C dX12_nextToken_260 (tgt := 286) (by decide) (fun q7 => ?_) (fun q7 => ?_)
        · replace hyp := (if_pos q7).symm.trans hyp
          refine V_weak (lv' := [some (.ref 103), none]) (lvle_s (lvle_n lvle_0)) ?_
          exact (T_X12_nextToken_b286 C ih) h5 hyp
        · replace hyp := (if_neg q7).symm.trans hyp
          refine V_aload_n (pc := 263) C dX12_nextToken_263 rfl ?_
          refine V_aload_n (pc := 264) C dX12_nextToken_264 rfl ?_
          refine V_getI (pc := 265) C dX12_nextToken_265 lf_X12_230 fk_103_9 ?_
          refine V_bipush (pc := 268) C dX12_nextToken_268 (v := 10) (by decide) ?_
          refine V_imul (pc := 270) C dX12_nextToken_270 ?_
          refine V_aload_n (pc := 271) C dX12_nextToken_271 rfl ?_
          refine V_aload_n (pc := 272) C dX12_nextToken_272 rfl ?_
          refine V_getI (pc := 273) C dX12_nextToken_273 lf_X12_220 fk_103_5 ?_
          obtain ⟨r8, h9, eh9, hyp⟩ := bI_n hyp
          refine V_callI (pc := 276) C dX12_nextToken_276 lm_X12_236 mk_X12_signAt ok_103 rfl (M_X12_signAt _ eh9) rfl pd_X12_signAt (by decide) (by decide) (by decide) (As := [.int (h5.1 103 5)]) (rest := [.int ((h5.1 103 9) * (10 : Int32)), .ref 103]) rfl (Nat.le_of_ble_eq_true rfl) ?_
          refine V_iadd (pc := 279) C dX12_nextToken_279 ?_
          refine V_bipush (pc := 280) C dX12_nextToken_280 (v := 48) (by decide) ?_
          refine V_isub (pc := 282) C dX12_nextToken_282 ?_
          obtain ⟨h10, eh10, hyp⟩ := hb_n hyp
          refine V_putI (pc := 283) C dX12_nextToken_283 lf_X12_230 fk_103_9 rfl rfl eh10 ?_
          refine V_weak (lv' := [some (.ref 103), none]) (lvle_s (lvle_n lvle_0)) ?_
          exact (T_X12_nextToken_b286 C ih) h10 hyp
def F_X12_nextToken_b368 (N : Nat) (s0 : Int32) (h : PH) : Option PH :=
  hb (hs h 103 7 s0) fun h1 =>
  some h1
set_option maxRecDepth 20000 in
set_option maxHeartbeats 4000000 in
theorem T_X12_nextToken_b368 {X : CT} (C : CX X 154 cX12_nextToken 2 RX12 none 1 21) {h0 : PH} {N : Nat} : ∀ (s0 : Int32) (h : PH), F_X12_nextToken_b368 N s0 h = some h0 → V X (QV X h0) h 368 [none, none] [.int s0, .ref 103] := by
  intro s0 h hyp
  unfold F_X12_nextToken_b368 at hyp
  obtain ⟨h1, eh1, hyp⟩ := hb_n hyp
  refine V_putI (pc := 368) C dX12_nextToken_368 lf_X12_233 fk_103_7 rfl rfl eh1 ?_
  cases hyp
  exact V_vret C dX12_nextToken_371
def F_X12_nextToken_b363 (N : Nat) (h : PH) : Option PH :=
  F_X12_nextToken_b368 N (3 : Int32) h
set_option maxRecDepth 20000 in
set_option maxHeartbeats 4000000 in
theorem T_X12_nextToken_b363 {X : CT} (C : CX X 154 cX12_nextToken 2 RX12 none 1 21) {h0 : PH} {N : Nat} : ∀ (h : PH), F_X12_nextToken_b363 N  h = some h0 → V X (QV X h0) h 363 [none, none] [.ref 103] := by
  intro  h hyp
  unfold F_X12_nextToken_b363 at hyp
  refine V_iconst (pc := 363) C dX12_nextToken_363 (v := 3) (by decide) ?_
  refine V_goto (pc := 364) C dX12_nextToken_364 (tgt := 368) (by decide) ?_
  refine V_weak (lv' := [none, none]) (lvle_n (lvle_n lvle_0)) ?_
  exact (T_X12_nextToken_b368 C) (3 : Int32) h hyp
def F_X12_nextToken_b367 (N : Nat) (h : PH) : Option PH :=
  F_X12_nextToken_b368 N (4 : Int32) h
set_option maxRecDepth 20000 in
set_option maxHeartbeats 4000000 in
theorem T_X12_nextToken_b367 {X : CT} (C : CX X 154 cX12_nextToken 2 RX12 none 1 21) {h0 : PH} {N : Nat} : ∀ (h : PH), F_X12_nextToken_b367 N  h = some h0 → V X (QV X h0) h 367 [none, none] [.ref 103] := by
  intro  h hyp
  unfold F_X12_nextToken_b367 at hyp
  refine V_iconst (pc := 367) C dX12_nextToken_367 (v := 4) (by decide) ?_
  refine V_weak (lv' := [none, none]) (lvle_n (lvle_n lvle_0)) ?_
  exact (T_X12_nextToken_b368 C) (4 : Int32) h hyp
def F_X12_nextToken_b345 (N : Nat) (x1 : Int32) (h : PH) : Option PH :=
  if x1 = (45 : Int32) then
    F_X12_nextToken_b363 N  h
  else
    if x1 < (59 : Int32) then
      F_X12_nextToken_b367 N  h
    else
      if (61 : Int32) < x1 then
        F_X12_nextToken_b367 N  h
      else
        F_X12_nextToken_b363 N  h
set_option maxRecDepth 20000 in
set_option maxHeartbeats 4000000 in
theorem T_X12_nextToken_b345 {X : CT} (C : CX X 154 cX12_nextToken 2 RX12 none 1 21) {h0 : PH} {N : Nat} : ∀ (x1 : Int32) (h : PH), F_X12_nextToken_b345 N x1 h = some h0 → V X (QV X h0) h 345 [none, some (.int x1)] [.ref 103] := by
  intro x1 h hyp
  unfold F_X12_nextToken_b345 at hyp
  refine V_iload_n (pc := 345) C dX12_nextToken_345 rfl ?_
  refine V_bipush (pc := 346) C dX12_nextToken_346 (v := 45) (by decide) ?_
  refine V_icmp_eq (pc := 348) C dX12_nextToken_348 (tgt := 363) (by decide) (fun q1 => ?_) (fun q1 => ?_)
  · replace hyp := (if_pos q1).symm.trans hyp
    refine V_weak (lv' := [none, none]) (lvle_n (lvle_n lvle_0)) ?_
    exact (T_X12_nextToken_b363 C) h hyp
  · replace hyp := (if_neg q1).symm.trans hyp
    refine V_iload_n (pc := 351) C dX12_nextToken_351 rfl ?_
    refine V_bipush (pc := 352) C dX12_nextToken_352 (v := 59) (by decide) ?_
    refine V_icmp_lt (pc := 354) C dX12_nextToken_354 (tgt := 367) (by decide) (fun q2 => ?_) (fun q2 => ?_)
    · replace hyp := (if_pos q2).symm.trans hyp
      refine V_weak (lv' := [none, none]) (lvle_n (lvle_n lvle_0)) ?_
      exact (T_X12_nextToken_b367 C) h hyp
    · replace hyp := (if_neg q2).symm.trans hyp
      refine V_iload_n (pc := 357) C dX12_nextToken_357 rfl ?_
      refine V_bipush (pc := 358) C dX12_nextToken_358 (v := 61) (by decide) ?_
      refine V_icmp_gt (pc := 360) C dX12_nextToken_360 (tgt := 367) (by decide) (fun q3 => ?_) (fun q3 => ?_)
      · replace hyp := (if_pos q3).symm.trans hyp
        refine V_weak (lv' := [none, none]) (lvle_n (lvle_n lvle_0)) ?_
        exact (T_X12_nextToken_b367 C) h hyp
      · replace hyp := (if_neg q3).symm.trans hyp
        refine V_weak (lv' := [none, none]) (lvle_n (lvle_n lvle_0)) ?_
        exact (T_X12_nextToken_b363 C) h hyp
def F_X12_nextToken_b322 (N : Nat) (x1 : Int32) (h : PH) : Option PH :=
  hb (hs h 103 5 ((h.1 103 5) + (1 : Int32))) fun h1 =>
  if x1 < (40 : Int32) then
    F_X12_nextToken_b345 N x1 h1
  else
    if x1 ≤ (43 : Int32) then
      F_X12_nextToken_b363 N  h1
    else
      F_X12_nextToken_b345 N x1 h1
set_option maxRecDepth 20000 in
set_option maxHeartbeats 4000000 in
theorem T_X12_nextToken_b322 {X : CT} (C : CX X 154 cX12_nextToken 2 RX12 none 1 21) {h0 : PH} {N : Nat} : ∀ (x1 : Int32) (h : PH), F_X12_nextToken_b322 N x1 h = some h0 → V X (QV X h0) h 322 [some (.ref 103), some (.int x1)] [] := by
  intro x1 h hyp
  unfold F_X12_nextToken_b322 at hyp
  refine V_aload_n (pc := 322) C dX12_nextToken_322 rfl ?_
  refine V_dup (pc := 323) C dX12_nextToken_323 rfl ?_
  refine V_getI (pc := 324) C dX12_nextToken_324 lf_X12_220 fk_103_5 ?_
  refine V_iconst (pc := 327) C dX12_nextToken_327 (v := 1) (by decide) ?_
  refine V_iadd (pc := 328) C dX12_nextToken_328 ?_
  obtain ⟨h1, eh1, hyp⟩ := hb_n hyp
  refine V_putI (pc := 329) C dX12_nextToken_329 lf_X12_220 fk_103_5 rfl rfl eh1 ?_
  refine V_aload_n (pc := 332) C dX12_nextToken_332 rfl ?_
  refine V_iload_n (pc := 333) C dX12_nextToken_333 rfl ?_
  refine V_bipush (pc := 334) C dX12_nextToken_334 (v := 40) (by decide) ?_
  refine V_icmp_lt (pc := 336) C dX12_nextToken_336 (tgt := 345) (by decide) (fun q2 => ?_) (fun q2 => ?_)
  · replace hyp := (if_pos q2).symm.trans hyp
    refine V_weak (lv' := [none, some (.int x1)]) (lvle_n (lvle_s lvle_0)) ?_
    exact (T_X12_nextToken_b345 C) x1 h1 hyp
  · replace hyp := (if_neg q2).symm.trans hyp
    refine V_iload_n (pc := 339) C dX12_nextToken_339 rfl ?_
    refine V_bipush (pc := 340) C dX12_nextToken_340 (v := 43) (by decide) ?_
    refine V_icmp_le (pc := 342) C dX12_nextToken_342 (tgt := 363) (by decide) (fun q3 => ?_) (fun q3 => ?_)
    · replace hyp := (if_pos q3).symm.trans hyp
      refine V_weak (lv' := [none, none]) (lvle_n (lvle_n lvle_0)) ?_
      exact (T_X12_nextToken_b363 C) h1 hyp
    · replace hyp := (if_neg q3).symm.trans hyp
      refine V_weak (lv' := [none, some (.int x1)]) (lvle_n (lvle_s lvle_0)) ?_
      exact (T_X12_nextToken_b345 C) x1 h1 hyp
def F_X12_nextToken_b212 (N : Nat) (x1 : Int32) (h : PH) : Option PH :=
  if x1 < (48 : Int32) then
    F_X12_nextToken_b322 N x1 h
  else
    if (57 : Int32) < x1 then
      F_X12_nextToken_b322 N x1 h
    else
      F_X12_nextToken_b224 N N  h
set_option maxRecDepth 20000 in
set_option maxHeartbeats 4000000 in
theorem T_X12_nextToken_b212 {X : CT} (C : CX X 154 cX12_nextToken 2 RX12 none 1 21) {h0 : PH} {N : Nat} : ∀ (x1 : Int32) (h : PH), F_X12_nextToken_b212 N x1 h = some h0 → V X (QV X h0) h 212 [some (.ref 103), some (.int x1)] [] := by
  intro x1 h hyp
  unfold F_X12_nextToken_b212 at hyp
  refine V_iload_n (pc := 212) C dX12_nextToken_212 rfl ?_
  refine V_bipush (pc := 213) C dX12_nextToken_213 (v := 48) (by decide) ?_
  refine V_icmp_lt (pc := 215) C dX12_nextToken_215 (tgt := 322) (by decide) (fun q1 => ?_) (fun q1 => ?_)
  · replace hyp := (if_pos q1).symm.trans hyp
    refine V_weak (lv' := [some (.ref 103), some (.int x1)]) (lvle_s (lvle_s lvle_0)) ?_
    exact (T_X12_nextToken_b322 C) x1 h hyp
  · replace hyp := (if_neg q1).symm.trans hyp
    refine V_iload_n (pc := 218) C dX12_nextToken_218 rfl ?_
    refine V_bipush (pc := 219) C dX12_nextToken_219 (v := 57) (by decide) ?_
    refine V_icmp_gt (pc := 221) C dX12_nextToken_221 (tgt := 322) (by decide) (fun q2 => ?_) (fun q2 => ?_)
    · replace hyp := (if_pos q2).symm.trans hyp
      refine V_weak (lv' := [some (.ref 103), some (.int x1)]) (lvle_s (lvle_s lvle_0)) ?_
      exact (T_X12_nextToken_b322 C) x1 h hyp
    · replace hyp := (if_neg q2).symm.trans hyp
      refine V_weak (lv' := [some (.ref 103), none]) (lvle_s (lvle_n lvle_0)) ?_
      exact (T_X12_nextToken_b224 C) N h hyp
def F_X12_nextToken_b52 (N : Nat) (h : PH) : Option PH :=
  hb (hs h 103 6 (h.1 103 5)) fun h1 =>
  hb (hsL h1 103 8 (0 : Int64)) fun h2 =>
  hb (hs h2 103 9 (0 : Int32)) fun h3 =>
  if (h3.1 103 5) = (h3.1 103 4) then
    hb (hs h3 103 7 (0 : Int32)) fun h9 =>
    some h9
  else
    if inb (h3.1 103 5) 1000 = true then
    ib (h3.1 104 (h3.1 103 5).toNatClampNeg) fun v6 =>
    if v6 < (97 : Int32) then
      F_X12_nextToken_b212 N v6 h3
    else
      if (122 : Int32) < v6 then
        F_X12_nextToken_b212 N v6 h3
      else
        F_X12_nextToken_b109 N N  h3
    else none
set_option maxRecDepth 20000 in
set_option maxHeartbeats 4000000 in
theorem T_X12_nextToken_b52 {X : CT} (C : CX X 154 cX12_nextToken 2 RX12 none 1 21) {h0 : PH} {N : Nat} : ∀ (h : PH), F_X12_nextToken_b52 N  h = some h0 → V X (QV X h0) h 52 [some (.ref 103), none] [] := by
  intro  h hyp
  unfold F_X12_nextToken_b52 at hyp
  refine V_aload_n (pc := 52) C dX12_nextToken_52 rfl ?_
  refine V_aload_n (pc := 53) C dX12_nextToken_53 rfl ?_
  refine V_getI (pc := 54) C dX12_nextToken_54 lf_X12_220 fk_103_5 ?_
  obtain ⟨h1, eh1, hyp⟩ := hb_n hyp
  refine V_putI (pc := 57) C dX12_nextToken_57 lf_X12_223 fk_103_6 rfl rfl eh1 ?_
  refine V_aload_n (pc := 60) C dX12_nextToken_60 rfl ?_
  refine V_lconst (pc := 61) C dX12_nextToken_61 (v := 0) (by decide) ?_
  obtain ⟨h2, eh2, hyp⟩ := hb_n hyp
  refine V_putL (pc := 62) C dX12_nextToken_62 lf_X12_226 fk_103_8 rfl rfl eh2 ?_
  refine V_aload_n (pc := 65) C dX12_nextToken_65 rfl ?_
  refine V_iconst (pc := 66) C dX12_nextToken_66 (v := 0) (by decide) ?_
  obtain ⟨h3, eh3, hyp⟩ := hb_n hyp
  refine V_putI (pc := 67) C dX12_nextToken_67 lf_X12_230 fk_103_9 rfl rfl eh3 ?_
  refine V_aload_n (pc := 70) C dX12_nextToken_70 rfl ?_
  refine V_getI (pc := 71) C dX12_nextToken_71 lf_X12_220 fk_103_5 ?_
  refine V_aload_n (pc := 74) C dX12_nextToken_74 rfl ?_
  refine V_getI (pc := 75) C dX12_nextToken_75 lf_X12_217 fk_103_4 ?_
  refine V_icmp_ne (pc := 78) C dX12_nextToken_78 (tgt := 87) (by decide) (fun q4 => ?_) (fun q4 => ?_)
  · replace hyp := (if_neg q4).symm.trans hyp
    refine V_aload_n (pc := 87) C dX12_nextToken_87 rfl ?_
    refine V_getR (pc := 88) C dX12_nextToken_88 lf_X12_13 fk_103_3 ?_
    refine V_aload_n (pc := 91) C dX12_nextToken_91 rfl ?_
    refine V_getI (pc := 92) C dX12_nextToken_92 lf_X12_220 fk_103_5 ?_
    obtain ⟨g5, hyp⟩ := gd_n hyp
    refine V_iald (pc := 95) C dX12_nextToken_95 ak_104 g5 ?_
    obtain ⟨v6, ev6, hyp⟩ := ib_n hyp
    refine V_topI ev6 ?_
    refine V_istore_n (pc := 96) C dX12_nextToken_96 (by decide) rfl ?_
    refine V_iload_n (pc := 97) C dX12_nextToken_97 rfl ?_
    refine V_bipush (pc := 98) C dX12_nextToken_98 (v := 97) (by decide) ?_
    refine V_icmp_lt (pc := 100) C dX12_nextToken_100 (tgt := 212) (by decide) (fun q7 => ?_) (fun q7 => ?_)
    · replace hyp := (if_pos q7).symm.trans hyp
      refine V_weak (lv' := [some (.ref 103), some (.int v6)]) (lvle_s (lvle_s lvle_0)) ?_
      exact (T_X12_nextToken_b212 C) v6 h3 hyp
    · replace hyp := (if_neg q7).symm.trans hyp
      refine V_iload_n (pc := 103) C dX12_nextToken_103 rfl ?_
      refine V_bipush (pc := 104) C dX12_nextToken_104 (v := 122) (by decide) ?_
      refine V_icmp_gt (pc := 106) C dX12_nextToken_106 (tgt := 212) (by decide) (fun q8 => ?_) (fun q8 => ?_)
      · replace hyp := (if_pos q8).symm.trans hyp
        refine V_weak (lv' := [some (.ref 103), some (.int v6)]) (lvle_s (lvle_s lvle_0)) ?_
        exact (T_X12_nextToken_b212 C) v6 h3 hyp
      · replace hyp := (if_neg q8).symm.trans hyp
        refine V_weak (lv' := [some (.ref 103), none]) (lvle_s (lvle_n lvle_0)) ?_
        exact (T_X12_nextToken_b109 C) N h3 hyp
  · replace hyp := (if_pos q4).symm.trans hyp
    refine V_aload_n (pc := 81) C dX12_nextToken_81 rfl ?_
    refine V_iconst (pc := 82) C dX12_nextToken_82 (v := 0) (by decide) ?_
    obtain ⟨h9, eh9, hyp⟩ := hb_n hyp
    refine V_putI (pc := 83) C dX12_nextToken_83 lf_X12_233 fk_103_7 rfl rfl eh9 ?_
    cases hyp
    exact V_vret C dX12_nextToken_86
def F_X12_nextToken_b0 (N : Nat) : Nat → PH → Option PH
  | 0, _ => none
  | n + 1, h =>
    if (h.1 103 4) ≤ (h.1 103 5) then
      F_X12_nextToken_b52 N  h
    else
      if inb (h.1 103 5) 1000 = true then
      if (h.1 104 (h.1 103 5).toNatClampNeg) = (32 : Int32) then
        F_X12_nextToken_b39 N (F_X12_nextToken_b0 N n)  h
      else
        if inb (h.1 103 5) 1000 = true then
        if (h.1 104 (h.1 103 5).toNatClampNeg) = (10 : Int32) then
          F_X12_nextToken_b39 N (F_X12_nextToken_b0 N n)  h
        else
          F_X12_nextToken_b52 N  h
        else none
      else none
set_option maxRecDepth 20000 in
set_option maxHeartbeats 4000000 in
theorem T_X12_nextToken_b0 {X : CT} (C : CX X 154 cX12_nextToken 2 RX12 none 1 21) {h0 : PH} {N : Nat} : ∀ (n : Nat) (h : PH), F_X12_nextToken_b0 N n  h = some h0 → V X (QV X h0) h 0 [some (.ref 103), none] [] := by
  intro n
  induction n with
  | zero =>
    intro  h hyp
    cases hyp
  | succ n ih =>
    intro  h hyp
    unfold F_X12_nextToken_b0 at hyp
    refine V_aload_n (pc := 0) C dX12_nextToken_0 rfl ?_
    refine V_getI (pc := 1) C dX12_nextToken_1 lf_X12_220 fk_103_5 ?_
    refine V_aload_n (pc := 4) C dX12_nextToken_4 rfl ?_
    refine V_getI (pc := 5) C dX12_nextToken_5 lf_X12_217 fk_103_4 ?_
    refine V_icmp_ge (pc := 8) C dX12_nextToken_8 (tgt := 52) (by decide) (fun q1 => ?_) (fun q1 => ?_)
    · replace hyp := (if_pos q1).symm.trans hyp
      refine V_weak (lv' := [some (.ref 103), none]) (lvle_s (lvle_n lvle_0)) ?_
      exact (T_X12_nextToken_b52 C) h hyp
    · replace hyp := (if_neg q1).symm.trans hyp
      refine V_aload_n (pc := 11) C dX12_nextToken_11 rfl ?_
      refine V_getR (pc := 12) C dX12_nextToken_12 lf_X12_13 fk_103_3 ?_
      refine V_aload_n (pc := 15) C dX12_nextToken_15 rfl ?_
      refine V_getI (pc := 16) C dX12_nextToken_16 lf_X12_220 fk_103_5 ?_
      obtain ⟨g2, hyp⟩ := gd_n hyp
      refine V_iald (pc := 19) C dX12_nextToken_19 ak_104 g2 ?_
      refine V_bipush (pc := 20) C dX12_nextToken_20 (v := 32) (by decide) ?_
      refine V_icmp_eq (pc := 22) C dX12_nextToken_22 (tgt := 39) (by decide) (fun q3 => ?_) (fun q3 => ?_)
      · replace hyp := (if_pos q3).symm.trans hyp
        refine V_weak (lv' := [some (.ref 103), none]) (lvle_s (lvle_n lvle_0)) ?_
        exact (T_X12_nextToken_b39 C ih) h hyp
      · replace hyp := (if_neg q3).symm.trans hyp
        refine V_aload_n (pc := 25) C dX12_nextToken_25 rfl ?_
        refine V_getR (pc := 26) C dX12_nextToken_26 lf_X12_13 fk_103_3 ?_
        refine V_aload_n (pc := 29) C dX12_nextToken_29 rfl ?_
        refine V_getI (pc := 30) C dX12_nextToken_30 lf_X12_220 fk_103_5 ?_
        obtain ⟨g4, hyp⟩ := gd_n hyp
        refine V_iald (pc := 33) C dX12_nextToken_33 ak_104 g4 ?_
        refine V_bipush (pc := 34) C dX12_nextToken_34 (v := 10) (by decide) ?_
        refine V_icmp_ne (pc := 36) C dX12_nextToken_36 (tgt := 52) (by decide) (fun q5 => ?_) (fun q5 => ?_)
        · replace hyp := (if_neg q5).symm.trans hyp
          refine V_weak (lv' := [some (.ref 103), none]) (lvle_s (lvle_n lvle_0)) ?_
          exact (T_X12_nextToken_b52 C) h hyp
        · replace hyp := (if_pos q5).symm.trans hyp
          refine V_weak (lv' := [some (.ref 103), none]) (lvle_s (lvle_n lvle_0)) ?_
          exact (T_X12_nextToken_b39 C ih) h hyp
def F_X12_nextToken (N : Nat) (h : PH) : Option PH :=
  F_X12_nextToken_b0 N N  h
set_option maxRecDepth 20000 in
set_option maxHeartbeats 4000000 in
theorem M_X12_nextToken (E : EV) {N : Nat} {h h2 : PH} (hyp : F_X12_nextToken N  h = some h2) : MV E 154 yX12_nextToken cX12_nextToken 2 none 1 21 [.ref 103] h h2 := by
  refine MV.of 1 (by decide) rfl (fun X e1 C => ?_)
  subst e1
  replace C : CX X 154 cX12_nextToken 2 RX12 none 1 21 := C
  show V X _ h 0 [some (.ref 103), none] []
  unfold F_X12_nextToken at hyp
  refine V_weak (lv' := [some (.ref 103), none]) (lvle_s (lvle_n lvle_0)) ?_
  exact (T_X12_nextToken_b0 C) N h hyp
theorem dX12_isWord_0 : decode cX12_isWord 0 = .ok (.aload_n 0, 1) := by decide +kernel
theorem dX12_isWord_1 : decode cX12_isWord 1 = .ok (.getfield 233, 3) := by decide +kernel
theorem dX12_isWord_4 : decode cX12_isWord 4 = .ok (.iconst 1, 1) := by decide +kernel
theorem dX12_isWord_5 : decode cX12_isWord 5 = .ok (.if_icmp .ne 16, 3) := by decide +kernel
theorem dX12_isWord_8 : decode cX12_isWord 8 = .ok (.aload_n 0, 1) := by decide +kernel
theorem dX12_isWord_9 : decode cX12_isWord 9 = .ok (.getfield 226, 3) := by decide +kernel
theorem dX12_isWord_12 : decode cX12_isWord 12 = .ok (.lload_n 1, 1) := by decide +kernel
theorem dX12_isWord_13 : decode cX12_isWord 13 = .ok (.lcmp, 1) := by decide +kernel
theorem dX12_isWord_14 : decode cX12_isWord 14 = .ok (.ifCond .ne 7, 3) := by decide +kernel
theorem dX12_isWord_17 : decode cX12_isWord 17 = .ok (.iconst 1, 1) := by decide +kernel
theorem dX12_isWord_18 : decode cX12_isWord 18 = .ok (.goto 4, 3) := by decide +kernel
theorem dX12_isWord_21 : decode cX12_isWord 21 = .ok (.iconst 0, 1) := by decide +kernel
theorem dX12_isWord_22 : decode cX12_isWord 22 = .ok (.ireturn, 1) := by decide +kernel
def F_X12_isWord_b21 (h : PH) : Option (Int32 × PH) :=
  some ((0 : Int32), h)
set_option maxRecDepth 20000 in
set_option maxHeartbeats 4000000 in
theorem T_X12_isWord_b21 {X : CT} (C : CX X 154 cX12_isWord 3 RX12 (some .boolean) 0 0) {r0 : Int32} {h0 : PH} : ∀ (h : PH), F_X12_isWord_b21  h = some (r0, h0) → V X (QI X r0 h0) h 21 [none, none, none] [] := by
  intro  h hyp
  unfold F_X12_isWord_b21 at hyp
  refine V_iconst (pc := 21) C dX12_isWord_21 (v := 0) (by decide) ?_
  cases hyp
  exact V_zret C dX12_isWord_22 rfl
def F_X12_isWord (a1 : Int64) (h : PH) : Option (Int32 × PH) :=
  if (h.1 103 7) = (1 : Int32) then
    if (lg_cmp (h.2 103 8) a1) = 0 then
      some ((1 : Int32), h)
    else
      F_X12_isWord_b21  h
  else
    F_X12_isWord_b21  h
set_option maxRecDepth 20000 in
set_option maxHeartbeats 4000000 in
theorem M_X12_isWord (E : EV) {a1 : Int64} {r : Int32} {h h2 : PH} (hyp : F_X12_isWord a1 h = some (r, h2)) : MI E 154 yX12_isWord cX12_isWord 3 (some .boolean) 0 0 [.ref 103, .long a1] h r h2 := by
  refine MI.of 0 (by decide) rfl (fun X e1 C => ?_)
  subst e1
  replace C : CX X 154 cX12_isWord 3 RX12 (some .boolean) 0 0 := C
  show V X _ h 0 [some (.ref 103), some (.long a1), none] []
  unfold F_X12_isWord at hyp
  refine V_aload_n (pc := 0) C dX12_isWord_0 rfl ?_
  refine V_getI (pc := 1) C dX12_isWord_1 lf_X12_233 fk_103_7 ?_
  refine V_iconst (pc := 4) C dX12_isWord_4 (v := 1) (by decide) ?_
  refine V_icmp_ne (pc := 5) C dX12_isWord_5 (tgt := 21) (by decide) (fun q1 => ?_) (fun q1 => ?_)
  · replace hyp := (if_neg q1).symm.trans hyp
    refine V_weak (lv' := [none, none, none]) (lvle_n (lvle_n (lvle_n lvle_0))) ?_
    exact (T_X12_isWord_b21 C) h hyp
  · replace hyp := (if_pos q1).symm.trans hyp
    refine V_aload_n (pc := 8) C dX12_isWord_8 rfl ?_
    refine V_getL (pc := 9) C dX12_isWord_9 lf_X12_226 fk_103_8 ?_
    refine V_lload_n (pc := 12) C dX12_isWord_12 rfl ?_
    refine V_lcmp (pc := 13) C dX12_isWord_13 ?_
    refine V_if_ne (pc := 14) C dX12_isWord_14 (tgt := 21) (by decide) (fun q2 => ?_) (fun q2 => ?_)
    · replace hyp := (if_neg q2).symm.trans hyp
      refine V_weak (lv' := [none, none, none]) (lvle_n (lvle_n (lvle_n lvle_0))) ?_
      exact (T_X12_isWord_b21 C) h hyp
    · replace hyp := (if_pos q2).symm.trans hyp
      refine V_iconst (pc := 17) C dX12_isWord_17 (v := 1) (by decide) ?_
      refine V_goto (pc := 18) C dX12_isWord_18 (tgt := 22) (by decide) ?_
      cases hyp
      exact V_zret C dX12_isWord_22 rfl
theorem dX12_isSign_0 : decode cX12_isSign 0 = .ok (.aload_n 0, 1) := by decide +kernel
theorem dX12_isSign_1 : decode cX12_isSign 1 = .ok (.getfield 233, 3) := by decide +kernel
theorem dX12_isSign_4 : decode cX12_isSign 4 = .ok (.iconst 3, 1) := by decide +kernel
theorem dX12_isSign_5 : decode cX12_isSign 5 = .ok (.if_icmp .ne 20, 3) := by decide +kernel
theorem dX12_isSign_8 : decode cX12_isSign 8 = .ok (.aload_n 0, 1) := by decide +kernel
theorem dX12_isSign_9 : decode cX12_isSign 9 = .ok (.getfield 13, 3) := by decide +kernel
theorem dX12_isSign_12 : decode cX12_isSign 12 = .ok (.aload_n 0, 1) := by decide +kernel
theorem dX12_isSign_13 : decode cX12_isSign 13 = .ok (.getfield 223, 3) := by decide +kernel
theorem dX12_isSign_16 : decode cX12_isSign 16 = .ok (.iaload, 1) := by decide +kernel
theorem dX12_isSign_17 : decode cX12_isSign 17 = .ok (.iload_n 1, 1) := by decide +kernel
theorem dX12_isSign_18 : decode cX12_isSign 18 = .ok (.if_icmp .ne 7, 3) := by decide +kernel
theorem dX12_isSign_21 : decode cX12_isSign 21 = .ok (.iconst 1, 1) := by decide +kernel
theorem dX12_isSign_22 : decode cX12_isSign 22 = .ok (.goto 4, 3) := by decide +kernel
theorem dX12_isSign_25 : decode cX12_isSign 25 = .ok (.iconst 0, 1) := by decide +kernel
theorem dX12_isSign_26 : decode cX12_isSign 26 = .ok (.ireturn, 1) := by decide +kernel
def F_X12_isSign_b25 (h : PH) : Option (Int32 × PH) :=
  some ((0 : Int32), h)
set_option maxRecDepth 20000 in
set_option maxHeartbeats 4000000 in
theorem T_X12_isSign_b25 {X : CT} (C : CX X 154 cX12_isSign 2 RX12 (some .boolean) 0 0) {r0 : Int32} {h0 : PH} : ∀ (h : PH), F_X12_isSign_b25  h = some (r0, h0) → V X (QI X r0 h0) h 25 [none, none] [] := by
  intro  h hyp
  unfold F_X12_isSign_b25 at hyp
  refine V_iconst (pc := 25) C dX12_isSign_25 (v := 0) (by decide) ?_
  cases hyp
  exact V_zret C dX12_isSign_26 rfl
def F_X12_isSign (a1 : Int32) (h : PH) : Option (Int32 × PH) :=
  if (h.1 103 7) = (3 : Int32) then
    if inb (h.1 103 6) 1000 = true then
    if (h.1 104 (h.1 103 6).toNatClampNeg) = a1 then
      some ((1 : Int32), h)
    else
      F_X12_isSign_b25  h
    else none
  else
    F_X12_isSign_b25  h
set_option maxRecDepth 20000 in
set_option maxHeartbeats 4000000 in
theorem M_X12_isSign (E : EV) {a1 : Int32} {r : Int32} {h h2 : PH} (hyp : F_X12_isSign a1 h = some (r, h2)) : MI E 154 yX12_isSign cX12_isSign 2 (some .boolean) 0 0 [.ref 103, .int a1] h r h2 := by
  refine MI.of 0 (by decide) rfl (fun X e1 C => ?_)
  subst e1
  replace C : CX X 154 cX12_isSign 2 RX12 (some .boolean) 0 0 := C
  show V X _ h 0 [some (.ref 103), some (.int a1)] []
  unfold F_X12_isSign at hyp
  refine V_aload_n (pc := 0) C dX12_isSign_0 rfl ?_
  refine V_getI (pc := 1) C dX12_isSign_1 lf_X12_233 fk_103_7 ?_
  refine V_iconst (pc := 4) C dX12_isSign_4 (v := 3) (by decide) ?_
  refine V_icmp_ne (pc := 5) C dX12_isSign_5 (tgt := 25) (by decide) (fun q1 => ?_) (fun q1 => ?_)
  · replace hyp := (if_neg q1).symm.trans hyp
    refine V_weak (lv' := [none, none]) (lvle_n (lvle_n lvle_0)) ?_
    exact (T_X12_isSign_b25 C) h hyp
  · replace hyp := (if_pos q1).symm.trans hyp
    refine V_aload_n (pc := 8) C dX12_isSign_8 rfl ?_
    refine V_getR (pc := 9) C dX12_isSign_9 lf_X12_13 fk_103_3 ?_
    refine V_aload_n (pc := 12) C dX12_isSign_12 rfl ?_
    refine V_getI (pc := 13) C dX12_isSign_13 lf_X12_223 fk_103_6 ?_
    obtain ⟨g2, hyp⟩ := gd_n hyp
    refine V_iald (pc := 16) C dX12_isSign_16 ak_104 g2 ?_
    refine V_iload_n (pc := 17) C dX12_isSign_17 rfl ?_
    refine V_icmp_ne (pc := 18) C dX12_isSign_18 (tgt := 25) (by decide) (fun q3 => ?_) (fun q3 => ?_)
    · replace hyp := (if_neg q3).symm.trans hyp
      refine V_weak (lv' := [none, none]) (lvle_n (lvle_n lvle_0)) ?_
      exact (T_X12_isSign_b25 C) h hyp
    · replace hyp := (if_pos q3).symm.trans hyp
      refine V_iconst (pc := 21) C dX12_isSign_21 (v := 1) (by decide) ?_
      refine V_goto (pc := 22) C dX12_isSign_22 (tgt := 26) (by decide) ?_
      cases hyp
      exact V_zret C dX12_isSign_26 rfl
theorem dX12_fails_0 : decode cX12_fails 0 = .ok (.aload_n 0, 1) := by decide +kernel
theorem dX12_fails_1 : decode cX12_fails 1 = .ok (.iload_n 1, 1) := by decide +kernel
theorem dX12_fails_2 : decode cX12_fails 2 = .ok (.bipush 16, 2) := by decide +kernel
theorem dX12_fails_4 : decode cX12_fails 4 = .ok (.aload_n 0, 1) := by decide +kernel
theorem dX12_fails_5 : decode cX12_fails 5 = .ok (.getfield 223, 3) := by decide +kernel
theorem dX12_fails_8 : decode cX12_fails 8 = .ok (.imul, 1) := by decide +kernel
theorem dX12_fails_9 : decode cX12_fails 9 = .ok (.iadd, 1) := by decide +kernel
theorem dX12_fails_10 : decode cX12_fails 10 = .ok (.putfield 244, 3) := by decide +kernel
theorem dX12_fails_13 : decode cX12_fails 13 = .ok (.iconst 0, 1) := by decide +kernel
theorem dX12_fails_14 : decode cX12_fails 14 = .ok (.ireturn, 1) := by decide +kernel
def F_X12_fails (a1 : Int32) (h : PH) : Option (Int32 × PH) :=
  hb (hs h 103 10 (a1 + ((16 : Int32) * (h.1 103 6)))) fun h1 =>
  some ((0 : Int32), h1)
set_option maxRecDepth 20000 in
set_option maxHeartbeats 4000000 in
theorem M_X12_fails (E : EV) {a1 : Int32} {r : Int32} {h h2 : PH} (hyp : F_X12_fails a1 h = some (r, h2)) : MI E 154 yX12_fails cX12_fails 2 (some .boolean) 0 0 [.ref 103, .int a1] h r h2 := by
  refine MI.of 0 (by decide) rfl (fun X e1 C => ?_)
  subst e1
  replace C : CX X 154 cX12_fails 2 RX12 (some .boolean) 0 0 := C
  show V X _ h 0 [some (.ref 103), some (.int a1)] []
  unfold F_X12_fails at hyp
  refine V_aload_n (pc := 0) C dX12_fails_0 rfl ?_
  refine V_iload_n (pc := 1) C dX12_fails_1 rfl ?_
  refine V_bipush (pc := 2) C dX12_fails_2 (v := 16) (by decide) ?_
  refine V_aload_n (pc := 4) C dX12_fails_4 rfl ?_
  refine V_getI (pc := 5) C dX12_fails_5 lf_X12_223 fk_103_6 ?_
  refine V_imul (pc := 8) C dX12_fails_8 ?_
  refine V_iadd (pc := 9) C dX12_fails_9 ?_
  obtain ⟨h1, eh1, hyp⟩ := hb_n hyp
  refine V_putI (pc := 10) C dX12_fails_10 lf_X12_244 fk_103_10 rfl rfl eh1 ?_
  refine V_iconst (pc := 13) C dX12_fails_13 (v := 0) (by decide) ?_
  cases hyp
  exact V_zret C dX12_fails_14 rfl
theorem dX12_puts_0 : decode cX12_puts 0 = .ok (.aload_n 0, 1) := by decide +kernel
theorem dX12_puts_1 : decode cX12_puts 1 = .ok (.getfield 36, 3) := by decide +kernel
theorem dX12_puts_4 : decode cX12_puts 4 = .ok (.aload_n 0, 1) := by decide +kernel
theorem dX12_puts_5 : decode cX12_puts 5 = .ok (.getfield 247, 3) := by decide +kernel
theorem dX12_puts_8 : decode cX12_puts 8 = .ok (.iload_n 1, 1) := by decide +kernel
theorem dX12_puts_9 : decode cX12_puts 9 = .ok (.iastore, 1) := by decide +kernel
theorem dX12_puts_10 : decode cX12_puts 10 = .ok (.aload_n 0, 1) := by decide +kernel
theorem dX12_puts_11 : decode cX12_puts 11 = .ok (.dup, 1) := by decide +kernel
theorem dX12_puts_12 : decode cX12_puts 12 = .ok (.getfield 247, 3) := by decide +kernel
theorem dX12_puts_15 : decode cX12_puts 15 = .ok (.iconst 1, 1) := by decide +kernel
theorem dX12_puts_16 : decode cX12_puts 16 = .ok (.iadd, 1) := by decide +kernel
theorem dX12_puts_17 : decode cX12_puts 17 = .ok (.putfield 247, 3) := by decide +kernel
theorem dX12_puts_20 : decode cX12_puts 20 = .ok (.return_, 1) := by decide +kernel
def F_X12_puts (a1 : Int32) (h : PH) : Option PH :=
  if inb (h.1 103 18) 4000 = true then
  hb (hs h 111 (h.1 103 18).toNatClampNeg a1) fun h2 =>
  hb (hs h2 103 18 ((h2.1 103 18) + (1 : Int32))) fun h3 =>
  some h3
  else none
set_option maxRecDepth 20000 in
set_option maxHeartbeats 4000000 in
theorem M_X12_puts (E : EV) {a1 : Int32} {h h2 : PH} (hyp : F_X12_puts a1 h = some h2) : MV E 154 yX12_puts cX12_puts 2 none 0 0 [.ref 103, .int a1] h h2 := by
  refine MV.of 0 (by decide) rfl (fun X e1 C => ?_)
  subst e1
  replace C : CX X 154 cX12_puts 2 RX12 none 0 0 := C
  show V X _ h 0 [some (.ref 103), some (.int a1)] []
  unfold F_X12_puts at hyp
  refine V_aload_n (pc := 0) C dX12_puts_0 rfl ?_
  refine V_getR (pc := 1) C dX12_puts_1 lf_X12_36 fk_103_17 ?_
  refine V_aload_n (pc := 4) C dX12_puts_4 rfl ?_
  refine V_getI (pc := 5) C dX12_puts_5 lf_X12_247 fk_103_18 ?_
  refine V_iload_n (pc := 8) C dX12_puts_8 rfl ?_
  obtain ⟨g1, hyp⟩ := gd_n hyp
  obtain ⟨h2, eh2, hyp⟩ := hb_n hyp
  refine V_iast (pc := 9) C dX12_puts_9 ak_111 g1 eh2 ?_
  refine V_aload_n (pc := 10) C dX12_puts_10 rfl ?_
  refine V_dup (pc := 11) C dX12_puts_11 rfl ?_
  refine V_getI (pc := 12) C dX12_puts_12 lf_X12_247 fk_103_18 ?_
  refine V_iconst (pc := 15) C dX12_puts_15 (v := 1) (by decide) ?_
  refine V_iadd (pc := 16) C dX12_puts_16 ?_
  obtain ⟨h3, eh3, hyp⟩ := hb_n hyp
  refine V_putI (pc := 17) C dX12_puts_17 lf_X12_247 fk_103_18 rfl rfl eh3 ?_
  cases hyp
  exact V_vret C dX12_puts_20
theorem dX12_fact_0 : decode cX12_fact 0 = .ok (.aload_n 0, 1) := by decide +kernel
theorem dX12_fact_1 : decode cX12_fact 1 = .ok (.getfield 233, 3) := by decide +kernel
theorem dX12_fact_4 : decode cX12_fact 4 = .ok (.iconst 1, 1) := by decide +kernel
theorem dX12_fact_5 : decode cX12_fact 5 = .ok (.if_icmp .eq 5, 3) := by decide +kernel
theorem dX12_fact_8 : decode cX12_fact 8 = .ok (.iconst 0, 1) := by decide +kernel
theorem dX12_fact_9 : decode cX12_fact 9 = .ok (.ireturn, 1) := by decide +kernel
theorem dX12_fact_10 : decode cX12_fact 10 = .ok (.aload_n 0, 1) := by decide +kernel
theorem dX12_fact_11 : decode cX12_fact 11 = .ok (.getfield 250, 3) := by decide +kernel
theorem dX12_fact_14 : decode cX12_fact 14 = .ok (.ifCond .eq 160, 3) := by decide +kernel
theorem dX12_fact_17 : decode cX12_fact 17 = .ok (.aload_n 0, 1) := by decide +kernel
theorem dX12_fact_18 : decode cX12_fact 18 = .ok (.getfield 226, 3) := by decide +kernel
theorem dX12_fact_21 : decode cX12_fact 21 = .ok (.ldc2_w 253, 3) := by decide +kernel
theorem dX12_fact_24 : decode cX12_fact 24 = .ok (.lcmp, 1) := by decide +kernel
theorem dX12_fact_25 : decode cX12_fact 25 = .ok (.ifCond .ne 7, 3) := by decide +kernel
theorem dX12_fact_28 : decode cX12_fact 28 = .ok (.iconst 1, 1) := by decide +kernel
theorem dX12_fact_29 : decode cX12_fact 29 = .ok (.goto 144, 3) := by decide +kernel
theorem dX12_fact_32 : decode cX12_fact 32 = .ok (.aload_n 0, 1) := by decide +kernel
theorem dX12_fact_33 : decode cX12_fact 33 = .ok (.getfield 226, 3) := by decide +kernel
theorem dX12_fact_36 : decode cX12_fact 36 = .ok (.ldc2_w 255, 3) := by decide +kernel
theorem dX12_fact_39 : decode cX12_fact 39 = .ok (.lcmp, 1) := by decide +kernel
theorem dX12_fact_40 : decode cX12_fact 40 = .ok (.ifCond .ne 7, 3) := by decide +kernel
theorem dX12_fact_43 : decode cX12_fact 43 = .ok (.iconst 2, 1) := by decide +kernel
theorem dX12_fact_44 : decode cX12_fact 44 = .ok (.goto 129, 3) := by decide +kernel
theorem dX12_fact_47 : decode cX12_fact 47 = .ok (.aload_n 0, 1) := by decide +kernel
theorem dX12_fact_48 : decode cX12_fact 48 = .ok (.getfield 226, 3) := by decide +kernel
theorem dX12_fact_51 : decode cX12_fact 51 = .ok (.ldc2_w 257, 3) := by decide +kernel
theorem dX12_fact_54 : decode cX12_fact 54 = .ok (.lcmp, 1) := by decide +kernel
theorem dX12_fact_55 : decode cX12_fact 55 = .ok (.ifCond .ne 7, 3) := by decide +kernel
theorem dX12_fact_58 : decode cX12_fact 58 = .ok (.iconst 3, 1) := by decide +kernel
theorem dX12_fact_59 : decode cX12_fact 59 = .ok (.goto 114, 3) := by decide +kernel
theorem dX12_fact_62 : decode cX12_fact 62 = .ok (.aload_n 0, 1) := by decide +kernel
theorem dX12_fact_63 : decode cX12_fact 63 = .ok (.getfield 226, 3) := by decide +kernel
theorem dX12_fact_66 : decode cX12_fact 66 = .ok (.ldc2_w 259, 3) := by decide +kernel
theorem dX12_fact_69 : decode cX12_fact 69 = .ok (.lcmp, 1) := by decide +kernel
theorem dX12_fact_70 : decode cX12_fact 70 = .ok (.ifCond .ne 7, 3) := by decide +kernel
theorem dX12_fact_73 : decode cX12_fact 73 = .ok (.iconst 4, 1) := by decide +kernel
theorem dX12_fact_74 : decode cX12_fact 74 = .ok (.goto 99, 3) := by decide +kernel
theorem dX12_fact_77 : decode cX12_fact 77 = .ok (.aload_n 0, 1) := by decide +kernel
theorem dX12_fact_78 : decode cX12_fact 78 = .ok (.getfield 226, 3) := by decide +kernel
theorem dX12_fact_81 : decode cX12_fact 81 = .ok (.ldc2_w 261, 3) := by decide +kernel
theorem dX12_fact_84 : decode cX12_fact 84 = .ok (.lcmp, 1) := by decide +kernel
theorem dX12_fact_85 : decode cX12_fact 85 = .ok (.ifCond .ne 7, 3) := by decide +kernel
theorem dX12_fact_88 : decode cX12_fact 88 = .ok (.iconst 5, 1) := by decide +kernel
theorem dX12_fact_89 : decode cX12_fact 89 = .ok (.goto 84, 3) := by decide +kernel
theorem dX12_fact_92 : decode cX12_fact 92 = .ok (.aload_n 0, 1) := by decide +kernel
theorem dX12_fact_93 : decode cX12_fact 93 = .ok (.getfield 226, 3) := by decide +kernel
theorem dX12_fact_96 : decode cX12_fact 96 = .ok (.ldc2_w 263, 3) := by decide +kernel
theorem dX12_fact_99 : decode cX12_fact 99 = .ok (.lcmp, 1) := by decide +kernel
theorem dX12_fact_100 : decode cX12_fact 100 = .ok (.ifCond .ne 8, 3) := by decide +kernel
theorem dX12_fact_103 : decode cX12_fact 103 = .ok (.bipush 6, 2) := by decide +kernel
theorem dX12_fact_105 : decode cX12_fact 105 = .ok (.goto 68, 3) := by decide +kernel
theorem dX12_fact_108 : decode cX12_fact 108 = .ok (.aload_n 0, 1) := by decide +kernel
theorem dX12_fact_109 : decode cX12_fact 109 = .ok (.getfield 226, 3) := by decide +kernel
theorem dX12_fact_112 : decode cX12_fact 112 = .ok (.ldc2_w 265, 3) := by decide +kernel
theorem dX12_fact_115 : decode cX12_fact 115 = .ok (.lcmp, 1) := by decide +kernel
theorem dX12_fact_116 : decode cX12_fact 116 = .ok (.ifCond .ne 8, 3) := by decide +kernel
theorem dX12_fact_119 : decode cX12_fact 119 = .ok (.bipush 7, 2) := by decide +kernel
theorem dX12_fact_121 : decode cX12_fact 121 = .ok (.goto 52, 3) := by decide +kernel
theorem dX12_fact_124 : decode cX12_fact 124 = .ok (.aload_n 0, 1) := by decide +kernel
theorem dX12_fact_125 : decode cX12_fact 125 = .ok (.getfield 226, 3) := by decide +kernel
theorem dX12_fact_128 : decode cX12_fact 128 = .ok (.ldc2_w 267, 3) := by decide +kernel
theorem dX12_fact_131 : decode cX12_fact 131 = .ok (.lcmp, 1) := by decide +kernel
theorem dX12_fact_132 : decode cX12_fact 132 = .ok (.ifCond .ne 8, 3) := by decide +kernel
theorem dX12_fact_135 : decode cX12_fact 135 = .ok (.bipush 8, 2) := by decide +kernel
theorem dX12_fact_137 : decode cX12_fact 137 = .ok (.goto 36, 3) := by decide +kernel
theorem dX12_fact_140 : decode cX12_fact 140 = .ok (.aload_n 0, 1) := by decide +kernel
theorem dX12_fact_141 : decode cX12_fact 141 = .ok (.getfield 226, 3) := by decide +kernel
theorem dX12_fact_144 : decode cX12_fact 144 = .ok (.ldc2_w 269, 3) := by decide +kernel
theorem dX12_fact_147 : decode cX12_fact 147 = .ok (.lcmp, 1) := by decide +kernel
theorem dX12_fact_148 : decode cX12_fact 148 = .ok (.ifCond .ne 8, 3) := by decide +kernel
theorem dX12_fact_151 : decode cX12_fact 151 = .ok (.bipush 9, 2) := by decide +kernel
theorem dX12_fact_153 : decode cX12_fact 153 = .ok (.goto 20, 3) := by decide +kernel
theorem dX12_fact_156 : decode cX12_fact 156 = .ok (.aload_n 0, 1) := by decide +kernel
theorem dX12_fact_157 : decode cX12_fact 157 = .ok (.getfield 226, 3) := by decide +kernel
theorem dX12_fact_160 : decode cX12_fact 160 = .ok (.ldc2_w 271, 3) := by decide +kernel
theorem dX12_fact_163 : decode cX12_fact 163 = .ok (.lcmp, 1) := by decide +kernel
theorem dX12_fact_164 : decode cX12_fact 164 = .ok (.ifCond .ne 8, 3) := by decide +kernel
theorem dX12_fact_167 : decode cX12_fact 167 = .ok (.bipush 10, 2) := by decide +kernel
theorem dX12_fact_169 : decode cX12_fact 169 = .ok (.goto 4, 3) := by decide +kernel
theorem dX12_fact_172 : decode cX12_fact 172 = .ok (.iconst 0, 1) := by decide +kernel
theorem dX12_fact_173 : decode cX12_fact 173 = .ok (.ireturn, 1) := by decide +kernel
theorem dX12_fact_174 : decode cX12_fact 174 = .ok (.aload_n 0, 1) := by decide +kernel
theorem dX12_fact_175 : decode cX12_fact 175 = .ok (.getfield 226, 3) := by decide +kernel
theorem dX12_fact_178 : decode cX12_fact 178 = .ok (.lconst 1, 1) := by decide +kernel
theorem dX12_fact_179 : decode cX12_fact 179 = .ok (.lcmp, 1) := by decide +kernel
theorem dX12_fact_180 : decode cX12_fact 180 = .ok (.ifCond .lt 20, 3) := by decide +kernel
theorem dX12_fact_183 : decode cX12_fact 183 = .ok (.aload_n 0, 1) := by decide +kernel
theorem dX12_fact_184 : decode cX12_fact 184 = .ok (.getfield 226, 3) := by decide +kernel
theorem dX12_fact_187 : decode cX12_fact 187 = .ok (.ldc2_w 273, 3) := by decide +kernel
theorem dX12_fact_190 : decode cX12_fact 190 = .ok (.lcmp, 1) := by decide +kernel
theorem dX12_fact_191 : decode cX12_fact 191 = .ok (.ifCond .gt 9, 3) := by decide +kernel
theorem dX12_fact_194 : decode cX12_fact 194 = .ok (.aload_n 0, 1) := by decide +kernel
theorem dX12_fact_195 : decode cX12_fact 195 = .ok (.getfield 226, 3) := by decide +kernel
theorem dX12_fact_198 : decode cX12_fact 198 = .ok (.l2i, 1) := by decide +kernel
theorem dX12_fact_199 : decode cX12_fact 199 = .ok (.ireturn, 1) := by decide +kernel
theorem dX12_fact_200 : decode cX12_fact 200 = .ok (.aload_n 0, 1) := by decide +kernel
theorem dX12_fact_201 : decode cX12_fact 201 = .ok (.getfield 226, 3) := by decide +kernel
theorem dX12_fact_204 : decode cX12_fact 204 = .ok (.ldc2_w 275, 3) := by decide +kernel
theorem dX12_fact_207 : decode cX12_fact 207 = .ok (.lcmp, 1) := by decide +kernel
theorem dX12_fact_208 : decode cX12_fact 208 = .ok (.ifCond .ne 8, 3) := by decide +kernel
theorem dX12_fact_211 : decode cX12_fact 211 = .ok (.bipush 9, 2) := by decide +kernel
theorem dX12_fact_213 : decode cX12_fact 213 = .ok (.goto 52, 3) := by decide +kernel
theorem dX12_fact_216 : decode cX12_fact 216 = .ok (.aload_n 0, 1) := by decide +kernel
theorem dX12_fact_217 : decode cX12_fact 217 = .ok (.getfield 226, 3) := by decide +kernel
theorem dX12_fact_220 : decode cX12_fact 220 = .ok (.ldc2_w 277, 3) := by decide +kernel
theorem dX12_fact_223 : decode cX12_fact 223 = .ok (.lcmp, 1) := by decide +kernel
theorem dX12_fact_224 : decode cX12_fact 224 = .ok (.ifCond .ne 8, 3) := by decide +kernel
theorem dX12_fact_227 : decode cX12_fact 227 = .ok (.bipush 10, 2) := by decide +kernel
theorem dX12_fact_229 : decode cX12_fact 229 = .ok (.goto 36, 3) := by decide +kernel
theorem dX12_fact_232 : decode cX12_fact 232 = .ok (.aload_n 0, 1) := by decide +kernel
theorem dX12_fact_233 : decode cX12_fact 233 = .ok (.getfield 226, 3) := by decide +kernel
theorem dX12_fact_236 : decode cX12_fact 236 = .ok (.ldc2_w 279, 3) := by decide +kernel
theorem dX12_fact_239 : decode cX12_fact 239 = .ok (.lcmp, 1) := by decide +kernel
theorem dX12_fact_240 : decode cX12_fact 240 = .ok (.ifCond .ne 8, 3) := by decide +kernel
theorem dX12_fact_243 : decode cX12_fact 243 = .ok (.bipush 11, 2) := by decide +kernel
theorem dX12_fact_245 : decode cX12_fact 245 = .ok (.goto 20, 3) := by decide +kernel
theorem dX12_fact_248 : decode cX12_fact 248 = .ok (.aload_n 0, 1) := by decide +kernel
theorem dX12_fact_249 : decode cX12_fact 249 = .ok (.getfield 226, 3) := by decide +kernel
theorem dX12_fact_252 : decode cX12_fact 252 = .ok (.ldc2_w 281, 3) := by decide +kernel
theorem dX12_fact_255 : decode cX12_fact 255 = .ok (.lcmp, 1) := by decide +kernel
theorem dX12_fact_256 : decode cX12_fact 256 = .ok (.ifCond .ne 8, 3) := by decide +kernel
theorem dX12_fact_259 : decode cX12_fact 259 = .ok (.bipush 12, 2) := by decide +kernel
theorem dX12_fact_261 : decode cX12_fact 261 = .ok (.goto 4, 3) := by decide +kernel
theorem dX12_fact_264 : decode cX12_fact 264 = .ok (.iconst 0, 1) := by decide +kernel
theorem dX12_fact_265 : decode cX12_fact 265 = .ok (.ireturn, 1) := by decide +kernel
def F_X12_fact_b200 (h : PH) : Option (Int32 × PH) :=
  if (lg_cmp (h.2 103 8) (307058 : Int64)) = 0 then
    some ((9 : Int32), h)
  else
    if (lg_cmp (h.2 103 8) (1132 : Int64)) = 0 then
      some ((10 : Int32), h)
    else
      if (lg_cmp (h.2 103 8) (60114 : Int64)) = 0 then
        some ((11 : Int32), h)
      else
        if (lg_cmp (h.2 103 8) (47 : Int64)) = 0 then
          some ((12 : Int32), h)
        else
          some ((0 : Int32), h)
set_option maxRecDepth 20000 in
set_option maxHeartbeats 4000000 in
theorem T_X12_fact_b200 {X : CT} (C : CX X 154 cX12_fact 1 RX12 (some .int) 0 0) {r0 : Int32} {h0 : PH} : ∀ (h : PH), F_X12_fact_b200  h = some (r0, h0) → V X (QI X r0 h0) h 200 [some (.ref 103)] [] := by
  intro  h hyp
  unfold F_X12_fact_b200 at hyp
  refine V_aload_n (pc := 200) C dX12_fact_200 rfl ?_
  refine V_getL (pc := 201) C dX12_fact_201 lf_X12_226 fk_103_8 ?_
  refine V_ldc2 (pc := 204) C dX12_fact_204 ll_X12_275 ?_
  refine V_lcmp (pc := 207) C dX12_fact_207 ?_
  refine V_if_ne (pc := 208) C dX12_fact_208 (tgt := 216) (by decide) (fun q1 => ?_) (fun q1 => ?_)
  · replace hyp := (if_neg q1).symm.trans hyp
    refine V_aload_n (pc := 216) C dX12_fact_216 rfl ?_
    refine V_getL (pc := 217) C dX12_fact_217 lf_X12_226 fk_103_8 ?_
    refine V_ldc2 (pc := 220) C dX12_fact_220 ll_X12_277 ?_
    refine V_lcmp (pc := 223) C dX12_fact_223 ?_
    refine V_if_ne (pc := 224) C dX12_fact_224 (tgt := 232) (by decide) (fun q2 => ?_) (fun q2 => ?_)
    · replace hyp := (if_neg q2).symm.trans hyp
      refine V_aload_n (pc := 232) C dX12_fact_232 rfl ?_
      refine V_getL (pc := 233) C dX12_fact_233 lf_X12_226 fk_103_8 ?_
      refine V_ldc2 (pc := 236) C dX12_fact_236 ll_X12_279 ?_
      refine V_lcmp (pc := 239) C dX12_fact_239 ?_
      refine V_if_ne (pc := 240) C dX12_fact_240 (tgt := 248) (by decide) (fun q3 => ?_) (fun q3 => ?_)
      · replace hyp := (if_neg q3).symm.trans hyp
        refine V_aload_n (pc := 248) C dX12_fact_248 rfl ?_
        refine V_getL (pc := 249) C dX12_fact_249 lf_X12_226 fk_103_8 ?_
        refine V_ldc2 (pc := 252) C dX12_fact_252 ll_X12_281 ?_
        refine V_lcmp (pc := 255) C dX12_fact_255 ?_
        refine V_if_ne (pc := 256) C dX12_fact_256 (tgt := 264) (by decide) (fun q4 => ?_) (fun q4 => ?_)
        · replace hyp := (if_neg q4).symm.trans hyp
          refine V_iconst (pc := 264) C dX12_fact_264 (v := 0) (by decide) ?_
          cases hyp
          exact V_iret C dX12_fact_265
        · replace hyp := (if_pos q4).symm.trans hyp
          refine V_bipush (pc := 259) C dX12_fact_259 (v := 12) (by decide) ?_
          refine V_goto (pc := 261) C dX12_fact_261 (tgt := 265) (by decide) ?_
          cases hyp
          exact V_iret C dX12_fact_265
      · replace hyp := (if_pos q3).symm.trans hyp
        refine V_bipush (pc := 243) C dX12_fact_243 (v := 11) (by decide) ?_
        refine V_goto (pc := 245) C dX12_fact_245 (tgt := 265) (by decide) ?_
        cases hyp
        exact V_iret C dX12_fact_265
    · replace hyp := (if_pos q2).symm.trans hyp
      refine V_bipush (pc := 227) C dX12_fact_227 (v := 10) (by decide) ?_
      refine V_goto (pc := 229) C dX12_fact_229 (tgt := 265) (by decide) ?_
      cases hyp
      exact V_iret C dX12_fact_265
  · replace hyp := (if_pos q1).symm.trans hyp
    refine V_bipush (pc := 211) C dX12_fact_211 (v := 9) (by decide) ?_
    refine V_goto (pc := 213) C dX12_fact_213 (tgt := 265) (by decide) ?_
    cases hyp
    exact V_iret C dX12_fact_265
def F_X12_fact (h : PH) : Option (Int32 × PH) :=
  if (h.1 103 7) = (1 : Int32) then
    if (h.1 103 19) = 0 then
      if (lg_cmp (h.2 103 8) (1 : Int64)) < 0 then
        F_X12_fact_b200  h
      else
        if 0 < (lg_cmp (h.2 103 8) (8 : Int64)) then
          F_X12_fact_b200  h
        else
          some ((h.2 103 8).toInt32, h)
    else
      if (lg_cmp (h.2 103 8) (4419 : Int64)) = 0 then
        some ((1 : Int32), h)
      else
        if (lg_cmp (h.2 103 8) (247162 : Int64)) = 0 then
          some ((2 : Int32), h)
        else
          if (lg_cmp (h.2 103 8) (10502425 : Int64)) = 0 then
            some ((3 : Int32), h)
          else
            if (lg_cmp (h.2 103 8) (295403683 : Int64)) = 0 then
              some ((4 : Int32), h)
            else
              if (lg_cmp (h.2 103 8) (180392 : Int64)) = 0 then
                some ((5 : Int32), h)
              else
                if (lg_cmp (h.2 103 8) (3436200 : Int64)) = 0 then
                  some ((6 : Int32), h)
                else
                  if (lg_cmp (h.2 103 8) (131638 : Int64)) = 0 then
                    some ((7 : Int32), h)
                  else
                    if (lg_cmp (h.2 103 8) (555 : Int64)) = 0 then
                      some ((8 : Int32), h)
                    else
                      if (lg_cmp (h.2 103 8) (2232 : Int64)) = 0 then
                        some ((9 : Int32), h)
                      else
                        if (lg_cmp (h.2 103 8) (400577 : Int64)) = 0 then
                          some ((10 : Int32), h)
                        else
                          some ((0 : Int32), h)
  else
    some ((0 : Int32), h)
set_option maxRecDepth 20000 in
set_option maxHeartbeats 4000000 in
theorem M_X12_fact (E : EV) {r : Int32} {h h2 : PH} (hyp : F_X12_fact  h = some (r, h2)) : MI E 154 yX12_fact cX12_fact 1 (some .int) 0 0 [.ref 103] h r h2 := by
  refine MI.of 0 (by decide) rfl (fun X e1 C => ?_)
  subst e1
  replace C : CX X 154 cX12_fact 1 RX12 (some .int) 0 0 := C
  show V X _ h 0 [some (.ref 103)] []
  unfold F_X12_fact at hyp
  refine V_aload_n (pc := 0) C dX12_fact_0 rfl ?_
  refine V_getI (pc := 1) C dX12_fact_1 lf_X12_233 fk_103_7 ?_
  refine V_iconst (pc := 4) C dX12_fact_4 (v := 1) (by decide) ?_
  refine V_icmp_eq (pc := 5) C dX12_fact_5 (tgt := 10) (by decide) (fun q1 => ?_) (fun q1 => ?_)
  · replace hyp := (if_pos q1).symm.trans hyp
    refine V_aload_n (pc := 10) C dX12_fact_10 rfl ?_
    refine V_getI (pc := 11) C dX12_fact_11 lf_X12_250 fk_103_19 ?_
    refine V_if_eq (pc := 14) C dX12_fact_14 (tgt := 174) (by decide) (fun q2 => ?_) (fun q2 => ?_)
    · replace hyp := (if_pos q2).symm.trans hyp
      refine V_aload_n (pc := 174) C dX12_fact_174 rfl ?_
      refine V_getL (pc := 175) C dX12_fact_175 lf_X12_226 fk_103_8 ?_
      refine V_lconst (pc := 178) C dX12_fact_178 (v := 1) (by decide) ?_
      refine V_lcmp (pc := 179) C dX12_fact_179 ?_
      refine V_if_lt (pc := 180) C dX12_fact_180 (tgt := 200) (by decide) (fun q3 => ?_) (fun q3 => ?_)
      · replace hyp := (if_pos q3).symm.trans hyp
        refine V_weak (lv' := [some (.ref 103)]) (lvle_s lvle_0) ?_
        exact (T_X12_fact_b200 C) h hyp
      · replace hyp := (if_neg q3).symm.trans hyp
        refine V_aload_n (pc := 183) C dX12_fact_183 rfl ?_
        refine V_getL (pc := 184) C dX12_fact_184 lf_X12_226 fk_103_8 ?_
        refine V_ldc2 (pc := 187) C dX12_fact_187 ll_X12_273 ?_
        refine V_lcmp (pc := 190) C dX12_fact_190 ?_
        refine V_if_gt (pc := 191) C dX12_fact_191 (tgt := 200) (by decide) (fun q4 => ?_) (fun q4 => ?_)
        · replace hyp := (if_pos q4).symm.trans hyp
          refine V_weak (lv' := [some (.ref 103)]) (lvle_s lvle_0) ?_
          exact (T_X12_fact_b200 C) h hyp
        · replace hyp := (if_neg q4).symm.trans hyp
          refine V_aload_n (pc := 194) C dX12_fact_194 rfl ?_
          refine V_getL (pc := 195) C dX12_fact_195 lf_X12_226 fk_103_8 ?_
          refine V_l2i (pc := 198) C dX12_fact_198 ?_
          cases hyp
          exact V_iret C dX12_fact_199
    · replace hyp := (if_neg q2).symm.trans hyp
      refine V_aload_n (pc := 17) C dX12_fact_17 rfl ?_
      refine V_getL (pc := 18) C dX12_fact_18 lf_X12_226 fk_103_8 ?_
      refine V_ldc2 (pc := 21) C dX12_fact_21 ll_X12_253 ?_
      refine V_lcmp (pc := 24) C dX12_fact_24 ?_
      refine V_if_ne (pc := 25) C dX12_fact_25 (tgt := 32) (by decide) (fun q5 => ?_) (fun q5 => ?_)
      · replace hyp := (if_neg q5).symm.trans hyp
        refine V_aload_n (pc := 32) C dX12_fact_32 rfl ?_
        refine V_getL (pc := 33) C dX12_fact_33 lf_X12_226 fk_103_8 ?_
        refine V_ldc2 (pc := 36) C dX12_fact_36 ll_X12_255 ?_
        refine V_lcmp (pc := 39) C dX12_fact_39 ?_
        refine V_if_ne (pc := 40) C dX12_fact_40 (tgt := 47) (by decide) (fun q6 => ?_) (fun q6 => ?_)
        · replace hyp := (if_neg q6).symm.trans hyp
          refine V_aload_n (pc := 47) C dX12_fact_47 rfl ?_
          refine V_getL (pc := 48) C dX12_fact_48 lf_X12_226 fk_103_8 ?_
          refine V_ldc2 (pc := 51) C dX12_fact_51 ll_X12_257 ?_
          refine V_lcmp (pc := 54) C dX12_fact_54 ?_
          refine V_if_ne (pc := 55) C dX12_fact_55 (tgt := 62) (by decide) (fun q7 => ?_) (fun q7 => ?_)
          · replace hyp := (if_neg q7).symm.trans hyp
            refine V_aload_n (pc := 62) C dX12_fact_62 rfl ?_
            refine V_getL (pc := 63) C dX12_fact_63 lf_X12_226 fk_103_8 ?_
            refine V_ldc2 (pc := 66) C dX12_fact_66 ll_X12_259 ?_
            refine V_lcmp (pc := 69) C dX12_fact_69 ?_
            refine V_if_ne (pc := 70) C dX12_fact_70 (tgt := 77) (by decide) (fun q8 => ?_) (fun q8 => ?_)
            · replace hyp := (if_neg q8).symm.trans hyp
              refine V_aload_n (pc := 77) C dX12_fact_77 rfl ?_
              refine V_getL (pc := 78) C dX12_fact_78 lf_X12_226 fk_103_8 ?_
              refine V_ldc2 (pc := 81) C dX12_fact_81 ll_X12_261 ?_
              refine V_lcmp (pc := 84) C dX12_fact_84 ?_
              refine V_if_ne (pc := 85) C dX12_fact_85 (tgt := 92) (by decide) (fun q9 => ?_) (fun q9 => ?_)
              · replace hyp := (if_neg q9).symm.trans hyp
                refine V_aload_n (pc := 92) C dX12_fact_92 rfl ?_
                refine V_getL (pc := 93) C dX12_fact_93 lf_X12_226 fk_103_8 ?_
                refine V_ldc2 (pc := 96) C dX12_fact_96 ll_X12_263 ?_
                refine V_lcmp (pc := 99) C dX12_fact_99 ?_
                refine V_if_ne (pc := 100) C dX12_fact_100 (tgt := 108) (by decide) (fun q10 => ?_) (fun q10 => ?_)
                · replace hyp := (if_neg q10).symm.trans hyp
                  refine V_aload_n (pc := 108) C dX12_fact_108 rfl ?_
                  refine V_getL (pc := 109) C dX12_fact_109 lf_X12_226 fk_103_8 ?_
                  refine V_ldc2 (pc := 112) C dX12_fact_112 ll_X12_265 ?_
                  refine V_lcmp (pc := 115) C dX12_fact_115 ?_
                  refine V_if_ne (pc := 116) C dX12_fact_116 (tgt := 124) (by decide) (fun q11 => ?_) (fun q11 => ?_)
                  · replace hyp := (if_neg q11).symm.trans hyp
                    refine V_aload_n (pc := 124) C dX12_fact_124 rfl ?_
                    refine V_getL (pc := 125) C dX12_fact_125 lf_X12_226 fk_103_8 ?_
                    refine V_ldc2 (pc := 128) C dX12_fact_128 ll_X12_267 ?_
                    refine V_lcmp (pc := 131) C dX12_fact_131 ?_
                    refine V_if_ne (pc := 132) C dX12_fact_132 (tgt := 140) (by decide) (fun q12 => ?_) (fun q12 => ?_)
                    · replace hyp := (if_neg q12).symm.trans hyp
                      refine V_aload_n (pc := 140) C dX12_fact_140 rfl ?_
                      refine V_getL (pc := 141) C dX12_fact_141 lf_X12_226 fk_103_8 ?_
                      refine V_ldc2 (pc := 144) C dX12_fact_144 ll_X12_269 ?_
                      refine V_lcmp (pc := 147) C dX12_fact_147 ?_
                      refine V_if_ne (pc := 148) C dX12_fact_148 (tgt := 156) (by decide) (fun q13 => ?_) (fun q13 => ?_)
                      · replace hyp := (if_neg q13).symm.trans hyp
                        refine V_aload_n (pc := 156) C dX12_fact_156 rfl ?_
                        refine V_getL (pc := 157) C dX12_fact_157 lf_X12_226 fk_103_8 ?_
                        refine V_ldc2 (pc := 160) C dX12_fact_160 ll_X12_271 ?_
                        refine V_lcmp (pc := 163) C dX12_fact_163 ?_
                        refine V_if_ne (pc := 164) C dX12_fact_164 (tgt := 172) (by decide) (fun q14 => ?_) (fun q14 => ?_)
                        · replace hyp := (if_neg q14).symm.trans hyp
                          refine V_iconst (pc := 172) C dX12_fact_172 (v := 0) (by decide) ?_
                          cases hyp
                          exact V_iret C dX12_fact_173
                        · replace hyp := (if_pos q14).symm.trans hyp
                          refine V_bipush (pc := 167) C dX12_fact_167 (v := 10) (by decide) ?_
                          refine V_goto (pc := 169) C dX12_fact_169 (tgt := 173) (by decide) ?_
                          cases hyp
                          exact V_iret C dX12_fact_173
                      · replace hyp := (if_pos q13).symm.trans hyp
                        refine V_bipush (pc := 151) C dX12_fact_151 (v := 9) (by decide) ?_
                        refine V_goto (pc := 153) C dX12_fact_153 (tgt := 173) (by decide) ?_
                        cases hyp
                        exact V_iret C dX12_fact_173
                    · replace hyp := (if_pos q12).symm.trans hyp
                      refine V_bipush (pc := 135) C dX12_fact_135 (v := 8) (by decide) ?_
                      refine V_goto (pc := 137) C dX12_fact_137 (tgt := 173) (by decide) ?_
                      cases hyp
                      exact V_iret C dX12_fact_173
                  · replace hyp := (if_pos q11).symm.trans hyp
                    refine V_bipush (pc := 119) C dX12_fact_119 (v := 7) (by decide) ?_
                    refine V_goto (pc := 121) C dX12_fact_121 (tgt := 173) (by decide) ?_
                    cases hyp
                    exact V_iret C dX12_fact_173
                · replace hyp := (if_pos q10).symm.trans hyp
                  refine V_bipush (pc := 103) C dX12_fact_103 (v := 6) (by decide) ?_
                  refine V_goto (pc := 105) C dX12_fact_105 (tgt := 173) (by decide) ?_
                  cases hyp
                  exact V_iret C dX12_fact_173
              · replace hyp := (if_pos q9).symm.trans hyp
                refine V_iconst (pc := 88) C dX12_fact_88 (v := 5) (by decide) ?_
                refine V_goto (pc := 89) C dX12_fact_89 (tgt := 173) (by decide) ?_
                cases hyp
                exact V_iret C dX12_fact_173
            · replace hyp := (if_pos q8).symm.trans hyp
              refine V_iconst (pc := 73) C dX12_fact_73 (v := 4) (by decide) ?_
              refine V_goto (pc := 74) C dX12_fact_74 (tgt := 173) (by decide) ?_
              cases hyp
              exact V_iret C dX12_fact_173
          · replace hyp := (if_pos q7).symm.trans hyp
            refine V_iconst (pc := 58) C dX12_fact_58 (v := 3) (by decide) ?_
            refine V_goto (pc := 59) C dX12_fact_59 (tgt := 173) (by decide) ?_
            cases hyp
            exact V_iret C dX12_fact_173
        · replace hyp := (if_pos q6).symm.trans hyp
          refine V_iconst (pc := 43) C dX12_fact_43 (v := 2) (by decide) ?_
          refine V_goto (pc := 44) C dX12_fact_44 (tgt := 173) (by decide) ?_
          cases hyp
          exact V_iret C dX12_fact_173
      · replace hyp := (if_pos q5).symm.trans hyp
        refine V_iconst (pc := 28) C dX12_fact_28 (v := 1) (by decide) ?_
        refine V_goto (pc := 29) C dX12_fact_29 (tgt := 173) (by decide) ?_
        cases hyp
        exact V_iret C dX12_fact_173
  · replace hyp := (if_neg q1).symm.trans hyp
    refine V_iconst (pc := 8) C dX12_fact_8 (v := 0) (by decide) ?_
    cases hyp
    exact V_iret C dX12_fact_9
