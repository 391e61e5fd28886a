theorem dJ6_compare_7cf53_0 : decode cJ6_compare_7cf53 0 = .ok (.iload_n 0, 1) := by decide +kernel
theorem dJ6_compare_7cf53_1 : decode cJ6_compare_7cf53 1 = .ok (.iload_n 1, 1) := by decide +kernel
theorem dJ6_compare_7cf53_2 : decode cJ6_compare_7cf53 2 = .ok (.if_icmp .ge 7, 3) := by decide +kernel
theorem dJ6_compare_7cf53_5 : decode cJ6_compare_7cf53 5 = .ok (.iconst (-1), 1) := by decide +kernel
theorem dJ6_compare_7cf53_6 : decode cJ6_compare_7cf53 6 = .ok (.goto 13, 3) := by decide +kernel
theorem dJ6_compare_7cf53_9 : decode cJ6_compare_7cf53 9 = .ok (.iload_n 0, 1) := by decide +kernel
theorem dJ6_compare_7cf53_10 : decode cJ6_compare_7cf53 10 = .ok (.iload_n 1, 1) := by decide +kernel
theorem dJ6_compare_7cf53_11 : decode cJ6_compare_7cf53 11 = .ok (.if_icmp .ne 7, 3) := by decide +kernel
theorem dJ6_compare_7cf53_14 : decode cJ6_compare_7cf53 14 = .ok (.iconst 0, 1) := by decide +kernel
theorem dJ6_compare_7cf53_15 : decode cJ6_compare_7cf53 15 = .ok (.goto 4, 3) := by decide +kernel
theorem dJ6_compare_7cf53_18 : decode cJ6_compare_7cf53 18 = .ok (.iconst 1, 1) := by decide +kernel
theorem dJ6_compare_7cf53_19 : decode cJ6_compare_7cf53 19 = .ok (.ireturn, 1) := by decide +kernel
def F_J6_compare_7cf53 (a1 : Int32) (a2 : Int32) (h : PH) : Option (Int32 × PH) :=
  if a2 ≤ a1 then
    if a1 = a2 then
      some ((0 : Int32), h)
    else
      some ((1 : Int32), h)
  else
    some ((-1 : Int32), h)
set_option maxRecDepth 20000 in
set_option maxHeartbeats 4000000 in
theorem M_J6_compare_7cf53 (E : EV) {a1 : Int32} {a2 : Int32} {r : Int32} {h h2 : PH} (hyp : F_J6_compare_7cf53 a1 a2 h = some (r, h2)) : MI E 103 yJ6_compare_7cf53 cJ6_compare_7cf53 2 (some .int) 0 0 [.int a1, .int a2] h r h2 := by
  refine MI.of 0 (by decide) rfl (fun X e1 C => ?_)
  subst e1
  replace C : CX X 103 cJ6_compare_7cf53 2 RJ6 (some .int) 0 0 := C
  show V X _ h 0 [some (.int a1), some (.int a2)] []
  unfold F_J6_compare_7cf53 at hyp
  refine V_iload_n (pc := 0) C dJ6_compare_7cf53_0 rfl ?_
  refine V_iload_n (pc := 1) C dJ6_compare_7cf53_1 rfl ?_
  refine V_icmp_ge (pc := 2) C dJ6_compare_7cf53_2 (tgt := 9) (by decide) (fun q1 => ?_) (fun q1 => ?_)
  · replace hyp := (if_pos q1).symm.trans hyp
    refine V_iload_n (pc := 9) C dJ6_compare_7cf53_9 rfl ?_
    refine V_iload_n (pc := 10) C dJ6_compare_7cf53_10 rfl ?_
    refine V_icmp_ne (pc := 11) C dJ6_compare_7cf53_11 (tgt := 18) (by decide) (fun q2 => ?_) (fun q2 => ?_)
    · replace hyp := (if_neg q2).symm.trans hyp
      refine V_iconst (pc := 18) C dJ6_compare_7cf53_18 (v := 1) (by decide) ?_
      cases hyp
      exact V_iret C dJ6_compare_7cf53_19
    · replace hyp := (if_pos q2).symm.trans hyp
      refine V_iconst (pc := 14) C dJ6_compare_7cf53_14 (v := 0) (by decide) ?_
      refine V_goto (pc := 15) C dJ6_compare_7cf53_15 (tgt := 19) (by decide) ?_
      cases hyp
      exact V_iret C dJ6_compare_7cf53_19
  · replace hyp := (if_neg q1).symm.trans hyp
    refine V_iconst (pc := 5) C dJ6_compare_7cf53_5 (v := -1) (by decide) ?_
    refine V_goto (pc := 6) C dJ6_compare_7cf53_6 (tgt := 19) (by decide) ?_
    cases hyp
    exact V_iret C dJ6_compare_7cf53_19
theorem dJ6_bitCount_0f7a4_0 : decode cJ6_bitCount_0f7a4 0 = .ok (.iload_n 0, 1) := by decide +kernel
theorem dJ6_bitCount_0f7a4_1 : decode cJ6_bitCount_0f7a4 1 = .ok (.iload_n 0, 1) := by decide +kernel
theorem dJ6_bitCount_0f7a4_2 : decode cJ6_bitCount_0f7a4 2 = .ok (.iconst 1, 1) := by decide +kernel
theorem dJ6_bitCount_0f7a4_3 : decode cJ6_bitCount_0f7a4 3 = .ok (.iushr, 1) := by decide +kernel
theorem dJ6_bitCount_0f7a4_4 : decode cJ6_bitCount_0f7a4 4 = .ok (.ldc_w 265, 3) := by decide +kernel
theorem dJ6_bitCount_0f7a4_7 : decode cJ6_bitCount_0f7a4 7 = .ok (.iand, 1) := by decide +kernel
theorem dJ6_bitCount_0f7a4_8 : decode cJ6_bitCount_0f7a4 8 = .ok (.isub, 1) := by decide +kernel
theorem dJ6_bitCount_0f7a4_9 : decode cJ6_bitCount_0f7a4 9 = .ok (.istore_n 0, 1) := by decide +kernel
theorem dJ6_bitCount_0f7a4_10 : decode cJ6_bitCount_0f7a4 10 = .ok (.iload_n 0, 1) := by decide +kernel
theorem dJ6_bitCount_0f7a4_11 : decode cJ6_bitCount_0f7a4 11 = .ok (.ldc_w 266, 3) := by decide +kernel
theorem dJ6_bitCount_0f7a4_14 : decode cJ6_bitCount_0f7a4 14 = .ok (.iand, 1) := by decide +kernel
theorem dJ6_bitCount_0f7a4_15 : decode cJ6_bitCount_0f7a4 15 = .ok (.iload_n 0, 1) := by decide +kernel
theorem dJ6_bitCount_0f7a4_16 : decode cJ6_bitCount_0f7a4 16 = .ok (.iconst 2, 1) := by decide +kernel
theorem dJ6_bitCount_0f7a4_17 : decode cJ6_bitCount_0f7a4 17 = .ok (.iushr, 1) := by decide +kernel
theorem dJ6_bitCount_0f7a4_18 : decode cJ6_bitCount_0f7a4 18 = .ok (.ldc_w 266, 3) := by decide +kernel
theorem dJ6_bitCount_0f7a4_21 : decode cJ6_bitCount_0f7a4 21 = .ok (.iand, 1) := by decide +kernel
theorem dJ6_bitCount_0f7a4_22 : decode cJ6_bitCount_0f7a4 22 = .ok (.iadd, 1) := by decide +kernel
theorem dJ6_bitCount_0f7a4_23 : decode cJ6_bitCount_0f7a4 23 = .ok (.istore_n 0, 1) := by decide +kernel
theorem dJ6_bitCount_0f7a4_24 : decode cJ6_bitCount_0f7a4 24 = .ok (.iload_n 0, 1) := by decide +kernel
theorem dJ6_bitCount_0f7a4_25 : decode cJ6_bitCount_0f7a4 25 = .ok (.iload_n 0, 1) := by decide +kernel
theorem dJ6_bitCount_0f7a4_26 : decode cJ6_bitCount_0f7a4 26 = .ok (.iconst 4, 1) := by decide +kernel
theorem dJ6_bitCount_0f7a4_27 : decode cJ6_bitCount_0f7a4 27 = .ok (.iushr, 1) := by decide +kernel
theorem dJ6_bitCount_0f7a4_28 : decode cJ6_bitCount_0f7a4 28 = .ok (.iadd, 1) := by decide +kernel
theorem dJ6_bitCount_0f7a4_29 : decode cJ6_bitCount_0f7a4 29 = .ok (.ldc_w 267, 3) := by decide +kernel
theorem dJ6_bitCount_0f7a4_32 : decode cJ6_bitCount_0f7a4 32 = .ok (.iand, 1) := by decide +kernel
theorem dJ6_bitCount_0f7a4_33 : decode cJ6_bitCount_0f7a4 33 = .ok (.istore_n 0, 1) := by decide +kernel
theorem dJ6_bitCount_0f7a4_34 : decode cJ6_bitCount_0f7a4 34 = .ok (.iload_n 0, 1) := by decide +kernel
theorem dJ6_bitCount_0f7a4_35 : decode cJ6_bitCount_0f7a4 35 = .ok (.iload_n 0, 1) := by decide +kernel
theorem dJ6_bitCount_0f7a4_36 : decode cJ6_bitCount_0f7a4 36 = .ok (.bipush 8, 2) := by decide +kernel
theorem dJ6_bitCount_0f7a4_38 : decode cJ6_bitCount_0f7a4 38 = .ok (.iushr, 1) := by decide +kernel
theorem dJ6_bitCount_0f7a4_39 : decode cJ6_bitCount_0f7a4 39 = .ok (.iadd, 1) := by decide +kernel
theorem dJ6_bitCount_0f7a4_40 : decode cJ6_bitCount_0f7a4 40 = .ok (.istore_n 0, 1) := by decide +kernel
theorem dJ6_bitCount_0f7a4_41 : decode cJ6_bitCount_0f7a4 41 = .ok (.iload_n 0, 1) := by decide +kernel
theorem dJ6_bitCount_0f7a4_42 : decode cJ6_bitCount_0f7a4 42 = .ok (.iload_n 0, 1) := by decide +kernel
theorem dJ6_bitCount_0f7a4_43 : decode cJ6_bitCount_0f7a4 43 = .ok (.bipush 16, 2) := by decide +kernel
theorem dJ6_bitCount_0f7a4_45 : decode cJ6_bitCount_0f7a4 45 = .ok (.iushr, 1) := by decide +kernel
theorem dJ6_bitCount_0f7a4_46 : decode cJ6_bitCount_0f7a4 46 = .ok (.iadd, 1) := by decide +kernel
theorem dJ6_bitCount_0f7a4_47 : decode cJ6_bitCount_0f7a4 47 = .ok (.istore_n 0, 1) := by decide +kernel
theorem dJ6_bitCount_0f7a4_48 : decode cJ6_bitCount_0f7a4 48 = .ok (.iload_n 0, 1) := by decide +kernel
theorem dJ6_bitCount_0f7a4_49 : decode cJ6_bitCount_0f7a4 49 = .ok (.bipush 63, 2) := by decide +kernel
theorem dJ6_bitCount_0f7a4_51 : decode cJ6_bitCount_0f7a4 51 = .ok (.iand, 1) := by decide +kernel
theorem dJ6_bitCount_0f7a4_52 : decode cJ6_bitCount_0f7a4 52 = .ok (.ireturn, 1) := by decide +kernel
def F_J6_bitCount_0f7a4 (a1 : Int32) (h : PH) : Option (Int32 × PH) :=
  ib (a1 - (((a1.toUInt32 >>> ((1 : Int32).toUInt32 &&& Int32.toUInt32 31)).toInt32) &&& (1431655765 : Int32))) fun v1 =>
  ib ((v1 &&& (858993459 : Int32)) + (((v1.toUInt32 >>> ((2 : Int32).toUInt32 &&& Int32.toUInt32 31)).toInt32) &&& (858993459 : Int32))) fun v2 =>
  ib ((v2 + ((v2.toUInt32 >>> ((4 : Int32).toUInt32 &&& Int32.toUInt32 31)).toInt32)) &&& (252645135 : Int32)) fun v3 =>
  ib (v3 + ((v3.toUInt32 >>> ((8 : Int32).toUInt32 &&& Int32.toUInt32 31)).toInt32)) fun v4 =>
  ib (v4 + ((v4.toUInt32 >>> ((16 : Int32).toUInt32 &&& Int32.toUInt32 31)).toInt32)) fun v5 =>
  some (v5 &&& (63 : Int32), h)
set_option maxRecDepth 20000 in
set_option maxHeartbeats 4000000 in
theorem M_J6_bitCount_0f7a4 (E : EV) {a1 : Int32} {r : Int32} {h h2 : PH} (hyp : F_J6_bitCount_0f7a4 a1 h = some (r, h2)) : MI E 103 yJ6_bitCount_0f7a4 cJ6_bitCount_0f7a4 1 (some .int) 0 0 [.int a1] h r h2 := by
  refine MI.of 0 (by decide) rfl (fun X e1 C => ?_)
  subst e1
  replace C : CX X 103 cJ6_bitCount_0f7a4 1 RJ6 (some .int) 0 0 := C
  show V X _ h 0 [some (.int a1)] []
  unfold F_J6_bitCount_0f7a4 at hyp
  refine V_iload_n (pc := 0) C dJ6_bitCount_0f7a4_0 rfl ?_
  refine V_iload_n (pc := 1) C dJ6_bitCount_0f7a4_1 rfl ?_
  refine V_iconst (pc := 2) C dJ6_bitCount_0f7a4_2 (v := 1) (by decide) ?_
  refine V_iushr (pc := 3) C dJ6_bitCount_0f7a4_3 ?_
  refine V_ldcw (pc := 4) C dJ6_bitCount_0f7a4_4 lc_J6_265 ?_
  refine V_iand (pc := 7) C dJ6_bitCount_0f7a4_7 ?_
  refine V_isub (pc := 8) C dJ6_bitCount_0f7a4_8 ?_
  obtain ⟨v1, ev1, hyp⟩ := ib_n hyp
  refine V_topI ev1 ?_
  refine V_istore_n (pc := 9) C dJ6_bitCount_0f7a4_9 (by decide) rfl ?_
  refine V_iload_n (pc := 10) C dJ6_bitCount_0f7a4_10 rfl ?_
  refine V_ldcw (pc := 11) C dJ6_bitCount_0f7a4_11 lc_J6_266 ?_
  refine V_iand (pc := 14) C dJ6_bitCount_0f7a4_14 ?_
  refine V_iload_n (pc := 15) C dJ6_bitCount_0f7a4_15 rfl ?_
  refine V_iconst (pc := 16) C dJ6_bitCount_0f7a4_16 (v := 2) (by decide) ?_
  refine V_iushr (pc := 17) C dJ6_bitCount_0f7a4_17 ?_
  refine V_ldcw (pc := 18) C dJ6_bitCount_0f7a4_18 lc_J6_266 ?_
  refine V_iand (pc := 21) C dJ6_bitCount_0f7a4_21 ?_
  refine V_iadd (pc := 22) C dJ6_bitCount_0f7a4_22 ?_
  obtain ⟨v2, ev2, hyp⟩ := ib_n hyp
  refine V_topI ev2 ?_
  refine V_istore_n (pc := 23) C dJ6_bitCount_0f7a4_23 (by decide) rfl ?_
  refine V_iload_n (pc := 24) C dJ6_bitCount_0f7a4_24 rfl ?_
  refine V_iload_n (pc := 25) C dJ6_bitCount_0f7a4_25 rfl ?_
  refine V_iconst (pc := 26) C dJ6_bitCount_0f7a4_26 (v := 4) (by decide) ?_
  refine V_iushr (pc := 27) C dJ6_bitCount_0f7a4_27 ?_
  refine V_iadd (pc := 28) C dJ6_bitCount_0f7a4_28 ?_
  refine V_ldcw (pc := 29) C dJ6_bitCount_0f7a4_29 lc_J6_267 ?_
  refine V_iand (pc := 32) C dJ6_bitCount_0f7a4_32 ?_
  obtain ⟨v3, ev3, hyp⟩ := ib_n hyp
  refine V_topI ev3 ?_
  refine V_istore_n (pc := 33) C dJ6_bitCount_0f7a4_33 (by decide) rfl ?_
  refine V_iload_n (pc := 34) C dJ6_bitCount_0f7a4_34 rfl ?_
  refine V_iload_n (pc := 35) C dJ6_bitCount_0f7a4_35 rfl ?_
  refine V_bipush (pc := 36) C dJ6_bitCount_0f7a4_36 (v := 8) (by decide) ?_
  refine V_iushr (pc := 38) C dJ6_bitCount_0f7a4_38 ?_
  refine V_iadd (pc := 39) C dJ6_bitCount_0f7a4_39 ?_
  obtain ⟨v4, ev4, hyp⟩ := ib_n hyp
  refine V_topI ev4 ?_
  refine V_istore_n (pc := 40) C dJ6_bitCount_0f7a4_40 (by decide) rfl ?_
  refine V_iload_n (pc := 41) C dJ6_bitCount_0f7a4_41 rfl ?_
  refine V_iload_n (pc := 42) C dJ6_bitCount_0f7a4_42 rfl ?_
  refine V_bipush (pc := 43) C dJ6_bitCount_0f7a4_43 (v := 16) (by decide) ?_
  refine V_iushr (pc := 45) C dJ6_bitCount_0f7a4_45 ?_
  refine V_iadd (pc := 46) C dJ6_bitCount_0f7a4_46 ?_
  obtain ⟨v5, ev5, hyp⟩ := ib_n hyp
  refine V_topI ev5 ?_
  refine V_istore_n (pc := 47) C dJ6_bitCount_0f7a4_47 (by decide) rfl ?_
  refine V_iload_n (pc := 48) C dJ6_bitCount_0f7a4_48 rfl ?_
  refine V_bipush (pc := 49) C dJ6_bitCount_0f7a4_49 (v := 63) (by decide) ?_
  refine V_iand (pc := 51) C dJ6_bitCount_0f7a4_51 ?_
  cases hyp
  exact V_iret C dJ6_bitCount_0f7a4_52
theorem dJ7_fill_53178_0 : decode cJ7_fill_53178 0 = .ok (.iconst 0, 1) := by decide +kernel
theorem dJ7_fill_53178_1 : decode cJ7_fill_53178 1 = .ok (.istore_n 2, 1) := by decide +kernel
theorem dJ7_fill_53178_2 : decode cJ7_fill_53178 2 = .ok (.aload_n 0, 1) := by decide +kernel
theorem dJ7_fill_53178_3 : decode cJ7_fill_53178 3 = .ok (.arraylength, 1) := by decide +kernel
theorem dJ7_fill_53178_4 : decode cJ7_fill_53178 4 = .ok (.istore_n 3, 1) := by decide +kernel
theorem dJ7_fill_53178_5 : decode cJ7_fill_53178 5 = .ok (.iload_n 2, 1) := by decide +kernel
theorem dJ7_fill_53178_6 : decode cJ7_fill_53178 6 = .ok (.iload_n 3, 1) := by decide +kernel
theorem dJ7_fill_53178_7 : decode cJ7_fill_53178 7 = .ok (.if_icmp .ge 13, 3) := by decide +kernel
theorem dJ7_fill_53178_10 : decode cJ7_fill_53178 10 = .ok (.aload_n 0, 1) := by decide +kernel
theorem dJ7_fill_53178_11 : decode cJ7_fill_53178 11 = .ok (.iload_n 2, 1) := by decide +kernel
theorem dJ7_fill_53178_12 : decode cJ7_fill_53178 12 = .ok (.iload_n 1, 1) := by decide +kernel
theorem dJ7_fill_53178_13 : decode cJ7_fill_53178 13 = .ok (.iastore, 1) := by decide +kernel
theorem dJ7_fill_53178_14 : decode cJ7_fill_53178 14 = .ok (.iinc 2 1, 3) := by decide +kernel
theorem dJ7_fill_53178_17 : decode cJ7_fill_53178 17 = .ok (.goto (-12), 3) := by decide +kernel
theorem dJ7_fill_53178_20 : decode cJ7_fill_53178 20 = .ok (.return_, 1) := by decide +kernel
def F_J7_fill_53178_b5 (N : Nat) (k0 : Nat) (n0 : Nat) : Nat → Int32 → Int32 → Int32 → PH → Option PH
  | 0, _, _, _, _ => none
  | n + 1, x1, x2, x3, h =>
    if x3 ≤ x2 then
      some h
    else
      if inb x2 n0 = true then
      hb (hs h k0 x2.toNatClampNeg x1) fun h3 =>
      ib (x2 + (1 : Int32)) fun v4 =>
      F_J7_fill_53178_b5 N k0 n0 n x1 v4 x3 h3
      else none
set_option maxRecDepth 20000 in
set_option maxHeartbeats 4000000 in
theorem T_J7_fill_53178_b5 {X : CT} (C : CX X 103 cJ7_fill_53178 4 RJ7 none 0 0) {h0 : PH} {N : Nat} {k0 : Nat} {n0 : Nat} (hk0 : AK 103 k0 0 n0 0) : ∀ (n : Nat) (x1 : Int32) (x2 : Int32) (x3 : Int32) (h : PH), F_J7_fill_53178_b5 N k0 n0 n x1 x2 x3 h = some h0 → V X (QV X h0) h 5 [some (.ref k0), some (.int x1), some (.int x2), some (.int x3)] [] := by
  intro n
  induction n with
  | zero =>
    intro x1 x2 x3 h hyp
    cases hyp
  | succ n ih =>
    intro x1 x2 x3 h hyp
    unfold F_J7_fill_53178_b5 at hyp
    refine V_iload_n (pc := 5) C dJ7_fill_53178_5 rfl ?_
    refine V_iload_n (pc := 6) C dJ7_fill_53178_6 rfl ?_
    refine V_icmp_ge (pc := 7) C dJ7_fill_53178_7 (tgt := 20) (by decide) (fun q1 => ?_) (fun q1 => ?_)
    · replace hyp := (if_pos q1).symm.trans hyp
      cases hyp
      exact V_vret C dJ7_fill_53178_20
    · replace hyp := (if_neg q1).symm.trans hyp
      refine V_aload_n (pc := 10) C dJ7_fill_53178_10 rfl ?_
      refine V_iload_n (pc := 11) C dJ7_fill_53178_11 rfl ?_
      refine V_iload_n (pc := 12) C dJ7_fill_53178_12 rfl ?_
      obtain ⟨g2, hyp⟩ := gd_n hyp
      obtain ⟨h3, eh3, hyp⟩ := hb_n hyp
      refine V_iast (pc := 13) C dJ7_fill_53178_13 hk0 g2 eh3 ?_
      obtain ⟨v4, ev4, hyp⟩ := ib_n hyp
      refine V_iinc (pc := 14) C dJ7_fill_53178_14 (v := v4) rfl (by rw [ev4]; rfl) (by decide) rfl ?_
      refine V_goto (pc := 17) C dJ7_fill_53178_17 (tgt := 5) (by decide) ?_
      refine V_weak (lv' := [some (.ref k0), some (.int x1), some (.int v4), some (.int x3)]) (lvle_s (lvle_s (lvle_s (lvle_s lvle_0)))) ?_
      exact ih x1 v4 x3 h3 hyp
def F_J7_fill_53178 (N : Nat) (k0 : Nat) (n0 : Nat) (a2 : Int32) (h : PH) : Option PH :=
  ib (nI n0) fun v1 =>
  F_J7_fill_53178_b5 N k0 n0 N a2 (0 : Int32) v1 h
set_option maxRecDepth 20000 in
set_option maxHeartbeats 4000000 in
theorem M_J7_fill_53178 (E : EV) {N : Nat} {k0 : Nat} {n0 : Nat} {a2 : Int32} (hk0 : AK 103 k0 0 n0 0) {h h2 : PH} (hyp : F_J7_fill_53178 N k0 n0 a2 h = some h2) : MV E 103 yJ7_fill_53178 cJ7_fill_53178 4 none 0 0 [.ref k0, .int a2] h h2 := by
  refine MV.of 2 (by decide) rfl (fun X e1 C => ?_)
  subst e1
  replace C : CX X 103 cJ7_fill_53178 4 RJ7 none 0 0 := C
  show V X _ h 0 [some (.ref k0), some (.int a2), none, none] []
  unfold F_J7_fill_53178 at hyp
  refine V_iconst (pc := 0) C dJ7_fill_53178_0 (v := 0) (by decide) ?_
  refine V_istore_n (pc := 1) C dJ7_fill_53178_1 (by decide) rfl ?_
  refine V_aload_n (pc := 2) C dJ7_fill_53178_2 rfl ?_
  refine V_alen (pc := 3) C dJ7_fill_53178_3 hk0 (by decide) rfl ?_
  obtain ⟨v1, ev1, hyp⟩ := ib_n hyp
  refine V_topI ev1 ?_
  refine V_istore_n (pc := 4) C dJ7_fill_53178_4 (by decide) rfl ?_
  refine V_weak (lv' := [some (.ref k0), some (.int a2), some (.int (0 : Int32)), some (.int v1)]) (lvle_s (lvle_s (lvle_s (lvle_s lvle_0)))) ?_
  exact (T_J7_fill_53178_b5 C hk0) N a2 (0 : Int32) v1 h hyp
