theorem dX2_clear_0 : decode cX2_clear 0 = .ok (.aload_n 0, 1) := by decide +kernel
theorem dX2_clear_1 : decode cX2_clear 1 = .ok (.getfield 18, 3) := by decide +kernel
theorem dX2_clear_4 : decode cX2_clear 4 = .ok (.iconst 0, 1) := by decide +kernel
theorem dX2_clear_5 : decode cX2_clear 5 = .ok (.invokestatic 27, 3) := by decide +kernel
theorem dX2_clear_8 : decode cX2_clear 8 = .ok (.aload_n 0, 1) := by decide +kernel
theorem dX2_clear_9 : decode cX2_clear 9 = .ok (.getfield 21, 3) := by decide +kernel
theorem dX2_clear_12 : decode cX2_clear 12 = .ok (.iconst 0, 1) := by decide +kernel
theorem dX2_clear_13 : decode cX2_clear 13 = .ok (.invokestatic 27, 3) := by decide +kernel
theorem dX2_clear_16 : decode cX2_clear 16 = .ok (.aload_n 0, 1) := by decide +kernel
theorem dX2_clear_17 : decode cX2_clear 17 = .ok (.iconst 0, 1) := by decide +kernel
theorem dX2_clear_18 : decode cX2_clear 18 = .ok (.putfield 33, 3) := by decide +kernel
theorem dX2_clear_21 : decode cX2_clear 21 = .ok (.aload_n 0, 1) := by decide +kernel
theorem dX2_clear_22 : decode cX2_clear 22 = .ok (.iconst 0, 1) := by decide +kernel
theorem dX2_clear_23 : decode cX2_clear 23 = .ok (.putfield 37, 3) := by decide +kernel
theorem dX2_clear_26 : decode cX2_clear 26 = .ok (.return_, 1) := by decide +kernel
def F_X2_clear (N : Nat) (o : Nat) (h : PH) : Option PH :=
  hb (hfill h (o + 3) 25 (0 : Int32)) fun h1 =>
  hb (hfill h1 (o + 4) 25 (0 : Int32)) fun h2 =>
  hb (hs h2 o 6 (0 : Int32)) fun h3 =>
  hb (hs h3 o 1 (0 : Int32)) fun h4 =>
  some h4
set_option maxRecDepth 20000 in
set_option maxHeartbeats 4000000 in
theorem M_X2_clear (E : EV) {N : Nat} {o : Nat} (ho : ISC o) {h h2 : PH} (hyp : F_X2_clear N o h = some h2) : MV E 103 yX2_clear cX2_clear 1 none 1 23 [.ref o] h h2 := by
  refine MV.of 0 (by decide) rfl (fun X e1 C => ?_)
  subst e1
  replace C : CX X 103 cX2_clear 1 RX2 none 1 23 := C
  show V X _ h 0 [some (.ref o)] []
  unfold F_X2_clear at hyp
  refine V_aload_n (pc := 0) C dX2_clear_0 rfl ?_
  refine V_getR (pc := 1) C dX2_clear_1 lf_X2_18 (fkC_3 ho) ?_
  refine V_iconst (pc := 4) C dX2_clear_4 (v := 0) (by decide) ?_
  obtain ⟨h1, eh1, hyp⟩ := hb_n hyp
  refine V_statV (pc := 5) C dX2_clear_5 lm_X2_27 ms_J7_fill_53178 (M_fill _ (akC_3 ho) (by decide) eh1) rfl pd_J7_fill_53178 (by decide) (by decide) (by decide) (rest := []) rfl (Nat.le_of_ble_eq_true rfl) ?_
  refine V_aload_n (pc := 8) C dX2_clear_8 rfl ?_
  refine V_getR (pc := 9) C dX2_clear_9 lf_X2_21 (fkC_4 ho) ?_
  refine V_iconst (pc := 12) C dX2_clear_12 (v := 0) (by decide) ?_
  obtain ⟨h2, eh2, hyp⟩ := hb_n hyp
  refine V_statV (pc := 13) C dX2_clear_13 lm_X2_27 ms_J7_fill_53178 (M_fill _ (akC_4 ho) (by decide) eh2) rfl pd_J7_fill_53178 (by decide) (by decide) (by decide) (rest := []) rfl (Nat.le_of_ble_eq_true rfl) ?_
  refine V_aload_n (pc := 16) C dX2_clear_16 rfl ?_
  refine V_iconst (pc := 17) C dX2_clear_17 (v := 0) (by decide) ?_
  obtain ⟨h3, eh3, hyp⟩ := hb_n hyp
  refine V_putI (pc := 18) C dX2_clear_18 lf_X2_33 (fkC_6 ho) rfl rfl eh3 ?_
  refine V_aload_n (pc := 21) C dX2_clear_21 rfl ?_
  refine V_iconst (pc := 22) C dX2_clear_22 (v := 0) (by decide) ?_
  obtain ⟨h4, eh4, hyp⟩ := hb_n hyp
  refine V_putI (pc := 23) C dX2_clear_23 lf_X2_37 (fkC_1 ho) rfl rfl eh4 ?_
  cases hyp
  exact V_vret C dX2_clear_26
theorem dX2_copy_0 : decode cX2_copy 0 = .ok (.aload_n 1, 1) := by decide +kernel
theorem dX2_copy_1 : decode cX2_copy 1 = .ok (.getfield 15, 3) := by decide +kernel
theorem dX2_copy_4 : decode cX2_copy 4 = .ok (.iconst 0, 1) := by decide +kernel
theorem dX2_copy_5 : decode cX2_copy 5 = .ok (.aload_n 0, 1) := by decide +kernel
theorem dX2_copy_6 : decode cX2_copy 6 = .ok (.getfield 15, 3) := by decide +kernel
theorem dX2_copy_9 : decode cX2_copy 9 = .ok (.iconst 0, 1) := by decide +kernel
theorem dX2_copy_10 : decode cX2_copy 10 = .ok (.aload_n 1, 1) := by decide +kernel
theorem dX2_copy_11 : decode cX2_copy 11 = .ok (.getfield 33, 3) := by decide +kernel
theorem dX2_copy_14 : decode cX2_copy 14 = .ok (.invokestatic 40, 3) := by decide +kernel
theorem dX2_copy_17 : decode cX2_copy 17 = .ok (.aload_n 1, 1) := by decide +kernel
theorem dX2_copy_18 : decode cX2_copy 18 = .ok (.getfield 18, 3) := by decide +kernel
theorem dX2_copy_21 : decode cX2_copy 21 = .ok (.iconst 0, 1) := by decide +kernel
theorem dX2_copy_22 : decode cX2_copy 22 = .ok (.aload_n 0, 1) := by decide +kernel
theorem dX2_copy_23 : decode cX2_copy 23 = .ok (.getfield 18, 3) := by decide +kernel
theorem dX2_copy_26 : decode cX2_copy 26 = .ok (.iconst 0, 1) := by decide +kernel
theorem dX2_copy_27 : decode cX2_copy 27 = .ok (.bipush 25, 2) := by decide +kernel
theorem dX2_copy_29 : decode cX2_copy 29 = .ok (.invokestatic 40, 3) := by decide +kernel
theorem dX2_copy_32 : decode cX2_copy 32 = .ok (.aload_n 1, 1) := by decide +kernel
theorem dX2_copy_33 : decode cX2_copy 33 = .ok (.getfield 21, 3) := by decide +kernel
theorem dX2_copy_36 : decode cX2_copy 36 = .ok (.iconst 0, 1) := by decide +kernel
theorem dX2_copy_37 : decode cX2_copy 37 = .ok (.aload_n 0, 1) := by decide +kernel
theorem dX2_copy_38 : decode cX2_copy 38 = .ok (.getfield 21, 3) := by decide +kernel
theorem dX2_copy_41 : decode cX2_copy 41 = .ok (.iconst 0, 1) := by decide +kernel
theorem dX2_copy_42 : decode cX2_copy 42 = .ok (.bipush 25, 2) := by decide +kernel
theorem dX2_copy_44 : decode cX2_copy 44 = .ok (.invokestatic 40, 3) := by decide +kernel
theorem dX2_copy_47 : decode cX2_copy 47 = .ok (.aload_n 0, 1) := by decide +kernel
theorem dX2_copy_48 : decode cX2_copy 48 = .ok (.aload_n 1, 1) := by decide +kernel
theorem dX2_copy_49 : decode cX2_copy 49 = .ok (.getfield 33, 3) := by decide +kernel
theorem dX2_copy_52 : decode cX2_copy 52 = .ok (.putfield 33, 3) := by decide +kernel
theorem dX2_copy_55 : decode cX2_copy 55 = .ok (.aload_n 0, 1) := by decide +kernel
theorem dX2_copy_56 : decode cX2_copy 56 = .ok (.aload_n 1, 1) := by decide +kernel
theorem dX2_copy_57 : decode cX2_copy 57 = .ok (.getfield 37, 3) := by decide +kernel
theorem dX2_copy_60 : decode cX2_copy 60 = .ok (.putfield 37, 3) := by decide +kernel
theorem dX2_copy_63 : decode cX2_copy 63 = .ok (.return_, 1) := by decide +kernel
def F_X2_copy (o : Nat) (h : PH) : Option PH :=
  if cpok (0 : Int32) (0 : Int32) (h.1 4 6) 1000 1000 = true then
  hb (hsA h (o + 2) (va_cpy (h.1 6) (h.1 (o + 2)) (0 : Int32).toNatClampNeg (0 : Int32).toNatClampNeg (h.1 4 6).toNatClampNeg)) fun h2 =>
  if cpok (0 : Int32) (0 : Int32) (25 : Int32) 25 25 = true then
  hb (hsA h2 (o + 3) (va_cpy (h2.1 7) (h2.1 (o + 3)) (0 : Int32).toNatClampNeg (0 : Int32).toNatClampNeg (25 : Int32).toNatClampNeg)) fun h4 =>
  hb (hsA h4 (o + 4) (va_cpy (h4.1 8) (h4.1 (o + 4)) (0 : Int32).toNatClampNeg (0 : Int32).toNatClampNeg (25 : Int32).toNatClampNeg)) fun h5 =>
  hb (hs h5 o 6 (h5.1 4 6)) fun h6 =>
  hb (hs h6 o 1 (h6.1 4 1)) fun h7 =>
  some h7
  else none
  else none
set_option maxRecDepth 20000 in
set_option maxHeartbeats 4000000 in
theorem M_X2_copy (E : EV) {o : Nat} (ho : ISC o) {h h2 : PH} (hyp : F_X2_copy o h = some h2) : MV E 103 yX2_copy cX2_copy 2 none 1 60 [.ref o, .ref 4] h h2 := by
  refine MV.of 0 (by decide) rfl (fun X e1 C => ?_)
  subst e1
  replace C : CX X 103 cX2_copy 2 RX2 none 1 60 := C
  show V X _ h 0 [some (.ref o), some (.ref 4)] []
  unfold F_X2_copy at hyp
  refine V_aload_n (pc := 0) C dX2_copy_0 rfl ?_
  refine V_getR (pc := 1) C dX2_copy_1 lf_X2_15 fk_4_2 ?_
  refine V_iconst (pc := 4) C dX2_copy_4 (v := 0) (by decide) ?_
  refine V_aload_n (pc := 5) C dX2_copy_5 rfl ?_
  refine V_getR (pc := 6) C dX2_copy_6 lf_X2_15 (fkC_2 ho) ?_
  refine V_iconst (pc := 9) C dX2_copy_9 (v := 0) (by decide) ?_
  refine V_aload_n (pc := 10) C dX2_copy_10 rfl ?_
  refine V_getI (pc := 11) C dX2_copy_11 lf_X2_33 fk_4_6 ?_
  obtain ⟨g1, hyp⟩ := gd_n hyp
  obtain ⟨h2, eh2, hyp⟩ := hb_n hyp
  refine V_copy (pc := 14) C dX2_copy_14 la_X2_40 ak_6 (akC_2 ho) g1 (by decide) (by decide) (Nat.le_of_ble_eq_true rfl) eh2 ?_
  refine V_aload_n (pc := 17) C dX2_copy_17 rfl ?_
  refine V_getR (pc := 18) C dX2_copy_18 lf_X2_18 fk_4_3 ?_
  refine V_iconst (pc := 21) C dX2_copy_21 (v := 0) (by decide) ?_
  refine V_aload_n (pc := 22) C dX2_copy_22 rfl ?_
  refine V_getR (pc := 23) C dX2_copy_23 lf_X2_18 (fkC_3 ho) ?_
  refine V_iconst (pc := 26) C dX2_copy_26 (v := 0) (by decide) ?_
  refine V_bipush (pc := 27) C dX2_copy_27 (v := 25) (by decide) ?_
  obtain ⟨g3, hyp⟩ := gd_n hyp
  obtain ⟨h4, eh4, hyp⟩ := hb_n hyp
  refine V_copy (pc := 29) C dX2_copy_29 la_X2_40 ak_7 (akC_3 ho) g3 (by decide) (by decide) (Nat.le_of_ble_eq_true rfl) eh4 ?_
  refine V_aload_n (pc := 32) C dX2_copy_32 rfl ?_
  refine V_getR (pc := 33) C dX2_copy_33 lf_X2_21 fk_4_4 ?_
  refine V_iconst (pc := 36) C dX2_copy_36 (v := 0) (by decide) ?_
  refine V_aload_n (pc := 37) C dX2_copy_37 rfl ?_
  refine V_getR (pc := 38) C dX2_copy_38 lf_X2_21 (fkC_4 ho) ?_
  refine V_iconst (pc := 41) C dX2_copy_41 (v := 0) (by decide) ?_
  refine V_bipush (pc := 42) C dX2_copy_42 (v := 25) (by decide) ?_
  obtain ⟨h5, eh5, hyp⟩ := hb_n hyp
  refine V_copy (pc := 44) C dX2_copy_44 la_X2_40 ak_8 (akC_4 ho) g3 (by decide) (by decide) (Nat.le_of_ble_eq_true rfl) eh5 ?_
  refine V_aload_n (pc := 47) C dX2_copy_47 rfl ?_
  refine V_aload_n (pc := 48) C dX2_copy_48 rfl ?_
  refine V_getI (pc := 49) C dX2_copy_49 lf_X2_33 fk_4_6 ?_
  obtain ⟨h6, eh6, hyp⟩ := hb_n hyp
  refine V_putI (pc := 52) C dX2_copy_52 lf_X2_33 (fkC_6 ho) rfl rfl eh6 ?_
  refine V_aload_n (pc := 55) C dX2_copy_55 rfl ?_
  refine V_aload_n (pc := 56) C dX2_copy_56 rfl ?_
  refine V_getI (pc := 57) C dX2_copy_57 lf_X2_37 fk_4_1 ?_
  obtain ⟨h7, eh7, hyp⟩ := hb_n hyp
  refine V_putI (pc := 60) C dX2_copy_60 lf_X2_37 (fkC_1 ho) rfl rfl eh7 ?_
  cases hyp
  exact V_vret C dX2_copy_63
theorem dX2_add_0 : decode cX2_add 0 = .ok (.aload_n 0, 1) := by decide +kernel
theorem dX2_add_1 : decode cX2_add 1 = .ok (.getfield 33, 3) := by decide +kernel
theorem dX2_add_4 : decode cX2_add 4 = .ok (.aload_n 0, 1) := by decide +kernel
theorem dX2_add_5 : decode cX2_add 5 = .ok (.getfield 15, 3) := by decide +kernel
theorem dX2_add_8 : decode cX2_add 8 = .ok (.arraylength, 1) := by decide +kernel
theorem dX2_add_9 : decode cX2_add 9 = .ok (.if_icmp .ge 28, 3) := by decide +kernel
theorem dX2_add_12 : decode cX2_add 12 = .ok (.aload_n 0, 1) := by decide +kernel
theorem dX2_add_13 : decode cX2_add 13 = .ok (.getfield 15, 3) := by decide +kernel
theorem dX2_add_16 : decode cX2_add 16 = .ok (.aload_n 0, 1) := by decide +kernel
theorem dX2_add_17 : decode cX2_add 17 = .ok (.getfield 33, 3) := by decide +kernel
theorem dX2_add_20 : decode cX2_add 20 = .ok (.iload_n 1, 1) := by decide +kernel
theorem dX2_add_21 : decode cX2_add 21 = .ok (.iload_n 2, 1) := by decide +kernel
theorem dX2_add_22 : decode cX2_add 22 = .ok (.bipush 6, 2) := by decide +kernel
theorem dX2_add_24 : decode cX2_add 24 = .ok (.ishl, 1) := by decide +kernel
theorem dX2_add_25 : decode cX2_add 25 = .ok (.ior, 1) := by decide +kernel
theorem dX2_add_26 : decode cX2_add 26 = .ok (.iastore, 1) := by decide +kernel
theorem dX2_add_27 : decode cX2_add 27 = .ok (.aload_n 0, 1) := by decide +kernel
theorem dX2_add_28 : decode cX2_add 28 = .ok (.dup, 1) := by decide +kernel
theorem dX2_add_29 : decode cX2_add 29 = .ok (.getfield 33, 3) := by decide +kernel
theorem dX2_add_32 : decode cX2_add 32 = .ok (.iconst 1, 1) := by decide +kernel
theorem dX2_add_33 : decode cX2_add 33 = .ok (.iadd, 1) := by decide +kernel
theorem dX2_add_34 : decode cX2_add 34 = .ok (.putfield 33, 3) := by decide +kernel
theorem dX2_add_37 : decode cX2_add 37 = .ok (.return_, 1) := by decide +kernel
def F_X2_add (o : Nat) (a1 : Int32) (a2 : Int32) (h : PH) : Option PH :=
  if (1000 : Int32) ≤ (h.1 o 6) then
    some h
  else
    if inb (h.1 o 6) 1000 = true then
    hb (hs h (o + 2) (h.1 o 6).toNatClampNeg (a1 ||| (a2 <<< ((6 : Int32) &&& 31)))) fun h3 =>
    hb (hs h3 o 6 ((h3.1 o 6) + (1 : Int32))) fun h4 =>
    some h4
    else none
set_option maxRecDepth 20000 in
set_option maxHeartbeats 4000000 in
theorem M_X2_add (E : EV) {o : Nat} {a1 : Int32} {a2 : Int32} (ho : ISC o) {h h2 : PH} (hyp : F_X2_add o a1 a2 h = some h2) : MV E 103 yX2_add cX2_add 3 none 0 0 [.ref o, .int a1, .int a2] h h2 := by
  refine MV.of 0 (by decide) rfl (fun X e1 C => ?_)
  subst e1
  replace C : CX X 103 cX2_add 3 RX2 none 0 0 := C
  show V X _ h 0 [some (.ref o), some (.int a1), some (.int a2)] []
  unfold F_X2_add at hyp
  refine V_aload_n (pc := 0) C dX2_add_0 rfl ?_
  refine V_getI (pc := 1) C dX2_add_1 lf_X2_33 (fkC_6 ho) ?_
  refine V_aload_n (pc := 4) C dX2_add_4 rfl ?_
  refine V_getR (pc := 5) C dX2_add_5 lf_X2_15 (fkC_2 ho) ?_
  refine V_alen (pc := 8) C dX2_add_8 (akC_2 ho) (by decide) (v := 1000) rfl ?_
  refine V_icmp_ge (pc := 9) C dX2_add_9 (tgt := 37) (by decide) (fun q1 => ?_) (fun q1 => ?_)
  · replace hyp := (if_pos q1).symm.trans hyp
    cases hyp
    exact V_vret C dX2_add_37
  · replace hyp := (if_neg q1).symm.trans hyp
    refine V_aload_n (pc := 12) C dX2_add_12 rfl ?_
    refine V_getR (pc := 13) C dX2_add_13 lf_X2_15 (fkC_2 ho) ?_
    refine V_aload_n (pc := 16) C dX2_add_16 rfl ?_
    refine V_getI (pc := 17) C dX2_add_17 lf_X2_33 (fkC_6 ho) ?_
    refine V_iload_n (pc := 20) C dX2_add_20 rfl ?_
    refine V_iload_n (pc := 21) C dX2_add_21 rfl ?_
    refine V_bipush (pc := 22) C dX2_add_22 (v := 6) (by decide) ?_
    refine V_ishl (pc := 24) C dX2_add_24 ?_
    refine V_ior (pc := 25) C dX2_add_25 ?_
    obtain ⟨g2, hyp⟩ := gd_n hyp
    obtain ⟨h3, eh3, hyp⟩ := hb_n hyp
    refine V_iast (pc := 26) C dX2_add_26 (akC_2 ho) g2 eh3 ?_
    refine V_aload_n (pc := 27) C dX2_add_27 rfl ?_
    refine V_dup (pc := 28) C dX2_add_28 rfl ?_
    refine V_getI (pc := 29) C dX2_add_29 lf_X2_33 (fkC_6 ho) ?_
    refine V_iconst (pc := 32) C dX2_add_32 (v := 1) (by decide) ?_
    refine V_iadd (pc := 33) C dX2_add_33 ?_
    obtain ⟨h4, eh4, hyp⟩ := hb_n hyp
    refine V_putI (pc := 34) C dX2_add_34 lf_X2_33 (fkC_6 ho) rfl rfl eh4 ?_
    cases hyp
    exact V_vret C dX2_add_37
theorem dX2_beginLine_0 : decode cX2_beginLine 0 = .ok (.aload_n 0, 1) := by decide +kernel
theorem dX2_beginLine_1 : decode cX2_beginLine 1 = .ok (.getfield 18, 3) := by decide +kernel
theorem dX2_beginLine_4 : decode cX2_beginLine 4 = .ok (.iload_n 1, 1) := by decide +kernel
theorem dX2_beginLine_5 : decode cX2_beginLine 5 = .ok (.aload_n 0, 1) := by decide +kernel
theorem dX2_beginLine_6 : decode cX2_beginLine 6 = .ok (.getfield 33, 3) := by decide +kernel
theorem dX2_beginLine_9 : decode cX2_beginLine 9 = .ok (.iastore, 1) := by decide +kernel
theorem dX2_beginLine_10 : decode cX2_beginLine 10 = .ok (.return_, 1) := by decide +kernel
def F_X2_beginLine (o : Nat) (a1 : Int32) (h : PH) : Option PH :=
  if inb a1 25 = true then
  hb (hs h (o + 3) a1.toNatClampNeg (h.1 o 6)) fun h2 =>
  some h2
  else none
set_option maxRecDepth 20000 in
set_option maxHeartbeats 4000000 in
theorem M_X2_beginLine (E : EV) {o : Nat} {a1 : Int32} (ho : ISC o) {h h2 : PH} (hyp : F_X2_beginLine o a1 h = some h2) : MV E 103 yX2_beginLine cX2_beginLine 2 none 0 0 [.ref o, .int a1] h h2 := by
  refine MV.of 0 (by decide) rfl (fun X e1 C => ?_)
  subst e1
  replace C : CX X 103 cX2_beginLine 2 RX2 none 0 0 := C
  show V X _ h 0 [some (.ref o), some (.int a1)] []
  unfold F_X2_beginLine at hyp
  refine V_aload_n (pc := 0) C dX2_beginLine_0 rfl ?_
  refine V_getR (pc := 1) C dX2_beginLine_1 lf_X2_18 (fkC_3 ho) ?_
  refine V_iload_n (pc := 4) C dX2_beginLine_4 rfl ?_
  refine V_aload_n (pc := 5) C dX2_beginLine_5 rfl ?_
  refine V_getI (pc := 6) C dX2_beginLine_6 lf_X2_33 (fkC_6 ho) ?_
  obtain ⟨g1, hyp⟩ := gd_n hyp
  obtain ⟨h2, eh2, hyp⟩ := hb_n hyp
  refine V_iast (pc := 9) C dX2_beginLine_9 (akC_3 ho) g1 eh2 ?_
  cases hyp
  exact V_vret C dX2_beginLine_10
theorem dX2_endLine_0 : decode cX2_endLine 0 = .ok (.aload_n 0, 1) := by decide +kernel
theorem dX2_endLine_1 : decode cX2_endLine 1 = .ok (.getfield 21, 3) := by decide +kernel
theorem dX2_endLine_4 : decode cX2_endLine 4 = .ok (.iload_n 1, 1) := by decide +kernel
theorem dX2_endLine_5 : decode cX2_endLine 5 = .ok (.aload_n 0, 1) := by decide +kernel
theorem dX2_endLine_6 : decode cX2_endLine 6 = .ok (.getfield 33, 3) := by decide +kernel
theorem dX2_endLine_9 : decode cX2_endLine 9 = .ok (.iastore, 1) := by decide +kernel
theorem dX2_endLine_10 : decode cX2_endLine 10 = .ok (.return_, 1) := by decide +kernel
def F_X2_endLine (o : Nat) (a1 : Int32) (h : PH) : Option PH :=
  if inb a1 25 = true then
  hb (hs h (o + 4) a1.toNatClampNeg (h.1 o 6)) fun h2 =>
  some h2
  else none
set_option maxRecDepth 20000 in
set_option maxHeartbeats 4000000 in
theorem M_X2_endLine (E : EV) {o : Nat} {a1 : Int32} (ho : ISC o) {h h2 : PH} (hyp : F_X2_endLine o a1 h = some h2) : MV E 103 yX2_endLine cX2_endLine 2 none 0 0 [.ref o, .int a1] h h2 := by
  refine MV.of 0 (by decide) rfl (fun X e1 C => ?_)
  subst e1
  replace C : CX X 103 cX2_endLine 2 RX2 none 0 0 := C
  show V X _ h 0 [some (.ref o), some (.int a1)] []
  unfold F_X2_endLine at hyp
  refine V_aload_n (pc := 0) C dX2_endLine_0 rfl ?_
  refine V_getR (pc := 1) C dX2_endLine_1 lf_X2_21 (fkC_4 ho) ?_
  refine V_iload_n (pc := 4) C dX2_endLine_4 rfl ?_
  refine V_aload_n (pc := 5) C dX2_endLine_5 rfl ?_
  refine V_getI (pc := 6) C dX2_endLine_6 lf_X2_33 (fkC_6 ho) ?_
  obtain ⟨g1, hyp⟩ := gd_n hyp
  obtain ⟨h2, eh2, hyp⟩ := hb_n hyp
  refine V_iast (pc := 9) C dX2_endLine_9 (akC_4 ho) g1 eh2 ?_
  cases hyp
  exact V_vret C dX2_endLine_10
theorem dX2_isTold_0 : decode cX2_isTold 0 = .ok (.aload_n 0, 1) := by decide +kernel
theorem dX2_isTold_1 : decode cX2_isTold 1 = .ok (.getfield 21, 3) := by decide +kernel
theorem dX2_isTold_4 : decode cX2_isTold 4 = .ok (.iload_n 1, 1) := by decide +kernel
theorem dX2_isTold_5 : decode cX2_isTold 5 = .ok (.iaload, 1) := by decide +kernel
theorem dX2_isTold_6 : decode cX2_isTold 6 = .ok (.aload_n 0, 1) := by decide +kernel
theorem dX2_isTold_7 : decode cX2_isTold 7 = .ok (.getfield 18, 3) := by decide +kernel
theorem dX2_isTold_10 : decode cX2_isTold 10 = .ok (.iload_n 1, 1) := by decide +kernel
theorem dX2_isTold_11 : decode cX2_isTold 11 = .ok (.iaload, 1) := by decide +kernel
theorem dX2_isTold_12 : decode cX2_isTold 12 = .ok (.if_icmp .le 7, 3) := by decide +kernel
theorem dX2_isTold_15 : decode cX2_isTold 15 = .ok (.iconst 1, 1) := by decide +kernel
theorem dX2_isTold_16 : decode cX2_isTold 16 = .ok (.goto 4, 3) := by decide +kernel
theorem dX2_isTold_19 : decode cX2_isTold 19 = .ok (.iconst 0, 1) := by decide +kernel
theorem dX2_isTold_20 : decode cX2_isTold 20 = .ok (.ireturn, 1) := by decide +kernel
def F_X2_isTold (o : Nat) (a1 : Int32) (h : PH) : Option (Int32 × PH) :=
  if inb a1 25 = true then
  if (h.1 (o + 4) a1.toNatClampNeg) ≤ (h.1 (o + 3) a1.toNatClampNeg) then
    some ((0 : Int32), h)
  else
    some ((1 : Int32), h)
  else none
set_option maxRecDepth 20000 in
set_option maxHeartbeats 4000000 in
theorem M_X2_isTold (E : EV) {o : Nat} {a1 : Int32} (ho : ISC o) {r : Int32} {h h2 : PH} (hyp : F_X2_isTold o a1 h = some (r, h2)) : MI E 103 yX2_isTold cX2_isTold 2 (some .boolean) 0 0 [.ref o, .int a1] h r h2 := by
  refine MI.of 0 (by decide) rfl (fun X e1 C => ?_)
  subst e1
  replace C : CX X 103 cX2_isTold 2 RX2 (some .boolean) 0 0 := C
  show V X _ h 0 [some (.ref o), some (.int a1)] []
  unfold F_X2_isTold at hyp
  refine V_aload_n (pc := 0) C dX2_isTold_0 rfl ?_
  refine V_getR (pc := 1) C dX2_isTold_1 lf_X2_21 (fkC_4 ho) ?_
  refine V_iload_n (pc := 4) C dX2_isTold_4 rfl ?_
  obtain ⟨g1, hyp⟩ := gd_n hyp
  refine V_iald (pc := 5) C dX2_isTold_5 (akC_4 ho) g1 ?_
  refine V_aload_n (pc := 6) C dX2_isTold_6 rfl ?_
  refine V_getR (pc := 7) C dX2_isTold_7 lf_X2_18 (fkC_3 ho) ?_
  refine V_iload_n (pc := 10) C dX2_isTold_10 rfl ?_
  refine V_iald (pc := 11) C dX2_isTold_11 (akC_3 ho) g1 ?_
  refine V_icmp_le (pc := 12) C dX2_isTold_12 (tgt := 19) (by decide) (fun q2 => ?_) (fun q2 => ?_)
  · replace hyp := (if_pos q2).symm.trans hyp
    refine V_iconst (pc := 19) C dX2_isTold_19 (v := 0) (by decide) ?_
    cases hyp
    exact V_zret C dX2_isTold_20 rfl
  · replace hyp := (if_neg q2).symm.trans hyp
    refine V_iconst (pc := 15) C dX2_isTold_15 (v := 1) (by decide) ?_
    refine V_goto (pc := 16) C dX2_isTold_16 (tgt := 20) (by decide) ?_
    cases hyp
    exact V_zret C dX2_isTold_20 rfl
theorem dX2_leaf_0 : decode cX2_leaf 0 = .ok (.iload_n 1, 1) := by decide +kernel
theorem dX2_leaf_1 : decode cX2_leaf 1 = .ok (.iconst 2, 1) := by decide +kernel
theorem dX2_leaf_2 : decode cX2_leaf 2 = .ok (.if_icmp .ne 5, 3) := by decide +kernel
theorem dX2_leaf_5 : decode cX2_leaf 5 = .ok (.iload_n 2, 1) := by decide +kernel
theorem dX2_leaf_6 : decode cX2_leaf 6 = .ok (.ireturn, 1) := by decide +kernel
theorem dX2_leaf_7 : decode cX2_leaf 7 = .ok (.iload_n 1, 1) := by decide +kernel
theorem dX2_leaf_8 : decode cX2_leaf 8 = .ok (.iconst 3, 1) := by decide +kernel
theorem dX2_leaf_9 : decode cX2_leaf 9 = .ok (.if_icmp .ne 9, 3) := by decide +kernel
theorem dX2_leaf_12 : decode cX2_leaf 12 = .ok (.iload_n 3, 1) := by decide +kernel
theorem dX2_leaf_13 : decode cX2_leaf 13 = .ok (.iload_n 2, 1) := by decide +kernel
theorem dX2_leaf_14 : decode cX2_leaf 14 = .ok (.ishr, 1) := by decide +kernel
theorem dX2_leaf_15 : decode cX2_leaf 15 = .ok (.iconst 1, 1) := by decide +kernel
theorem dX2_leaf_16 : decode cX2_leaf 16 = .ok (.iand, 1) := by decide +kernel
theorem dX2_leaf_17 : decode cX2_leaf 17 = .ok (.ireturn, 1) := by decide +kernel
theorem dX2_leaf_18 : decode cX2_leaf 18 = .ok (.iload_n 2, 1) := by decide +kernel
theorem dX2_leaf_19 : decode cX2_leaf 19 = .ok (.ifCond .lt 21, 3) := by decide +kernel
theorem dX2_leaf_22 : decode cX2_leaf 22 = .ok (.iload_n 2, 1) := by decide +kernel
theorem dX2_leaf_23 : decode cX2_leaf 23 = .ok (.aload_n 0, 1) := by decide +kernel
theorem dX2_leaf_24 : decode cX2_leaf 24 = .ok (.getfield 9, 3) := by decide +kernel
theorem dX2_leaf_27 : decode cX2_leaf 27 = .ok (.arraylength, 1) := by decide +kernel
theorem dX2_leaf_28 : decode cX2_leaf 28 = .ok (.if_icmp .ge 12, 3) := by decide +kernel
theorem dX2_leaf_31 : decode cX2_leaf 31 = .ok (.aload_n 0, 1) := by decide +kernel
theorem dX2_leaf_32 : decode cX2_leaf 32 = .ok (.getfield 9, 3) := by decide +kernel
theorem dX2_leaf_35 : decode cX2_leaf 35 = .ok (.iload_n 2, 1) := by decide +kernel
theorem dX2_leaf_36 : decode cX2_leaf 36 = .ok (.iaload, 1) := by decide +kernel
theorem dX2_leaf_37 : decode cX2_leaf 37 = .ok (.goto 4, 3) := by decide +kernel
theorem dX2_leaf_40 : decode cX2_leaf 40 = .ok (.iconst 0, 1) := by decide +kernel
theorem dX2_leaf_41 : decode cX2_leaf 41 = .ok (.ireturn, 1) := by decide +kernel
def F_X2_leaf_b40 (o : Nat) (h : PH) : Option (Int32 × PH) :=
  some ((0 : Int32), h)
set_option maxRecDepth 20000 in
set_option maxHeartbeats 4000000 in
theorem T_X2_leaf_b40 {X : CT} (C : CX X 103 cX2_leaf 4 RX2 (some .int) 0 0) {r0 : Int32} {h0 : PH} {o : Nat} (ho : ISC o) : ∀ (h : PH), F_X2_leaf_b40 o  h = some (r0, h0) → V X (QI X r0 h0) h 40 [none, none, none, none] [] := by
  intro  h hyp
  unfold F_X2_leaf_b40 at hyp
  refine V_iconst (pc := 40) C dX2_leaf_40 (v := 0) (by decide) ?_
  cases hyp
  exact V_iret C dX2_leaf_41
def F_X2_leaf (o : Nat) (a1 : Int32) (a2 : Int32) (a3 : Int32) (h : PH) : Option (Int32 × PH) :=
  if a1 = (2 : Int32) then
    some (a2, h)
  else
    if a1 = (3 : Int32) then
      some ((a3 >>> (a2 &&& 31)) &&& (1 : Int32), h)
    else
      if a2 < 0 then
        F_X2_leaf_b40 o  h
      else
        if (10 : Int32) ≤ a2 then
          F_X2_leaf_b40 o  h
        else
          if inb a2 10 = true then
          some (h.1 (o + 1) a2.toNatClampNeg, h)
          else none
set_option maxRecDepth 20000 in
set_option maxHeartbeats 4000000 in
theorem M_X2_leaf (E : EV) {o : Nat} {a1 : Int32} {a2 : Int32} {a3 : Int32} (ho : ISC o) {r : Int32} {h h2 : PH} (hyp : F_X2_leaf o a1 a2 a3 h = some (r, h2)) : MI E 103 yX2_leaf cX2_leaf 4 (some .int) 0 0 [.ref o, .int a1, .int a2, .int a3] h r h2 := by
  refine MI.of 0 (by decide) rfl (fun X e1 C => ?_)
  subst e1
  replace C : CX X 103 cX2_leaf 4 RX2 (some .int) 0 0 := C
  show V X _ h 0 [some (.ref o), some (.int a1), some (.int a2), some (.int a3)] []
  unfold F_X2_leaf at hyp
  refine V_iload_n (pc := 0) C dX2_leaf_0 rfl ?_
  refine V_iconst (pc := 1) C dX2_leaf_1 (v := 2) (by decide) ?_
  refine V_icmp_ne (pc := 2) C dX2_leaf_2 (tgt := 7) (by decide) (fun q1 => ?_) (fun q1 => ?_)
  · replace hyp := (if_neg q1).symm.trans hyp
    refine V_iload_n (pc := 7) C dX2_leaf_7 rfl ?_
    refine V_iconst (pc := 8) C dX2_leaf_8 (v := 3) (by decide) ?_
    refine V_icmp_ne (pc := 9) C dX2_leaf_9 (tgt := 18) (by decide) (fun q2 => ?_) (fun q2 => ?_)
    · replace hyp := (if_neg q2).symm.trans hyp
      refine V_iload_n (pc := 18) C dX2_leaf_18 rfl ?_
      refine V_if_lt (pc := 19) C dX2_leaf_19 (tgt := 40) (by decide) (fun q3 => ?_) (fun q3 => ?_)
      · replace hyp := (if_pos q3).symm.trans hyp
        refine V_weak (lv' := [none, none, none, none]) (lvle_n (lvle_n (lvle_n (lvle_n lvle_0)))) ?_
        exact (T_X2_leaf_b40 C ho) h hyp
      · replace hyp := (if_neg q3).symm.trans hyp
        refine V_iload_n (pc := 22) C dX2_leaf_22 rfl ?_
        refine V_aload_n (pc := 23) C dX2_leaf_23 rfl ?_
        refine V_getR (pc := 24) C dX2_leaf_24 lf_X2_9 (fkC_0 ho) ?_
        refine V_alen (pc := 27) C dX2_leaf_27 (akC_1 ho) (by decide) (v := 10) rfl ?_
        refine V_icmp_ge (pc := 28) C dX2_leaf_28 (tgt := 40) (by decide) (fun q4 => ?_) (fun q4 => ?_)
        · replace hyp := (if_pos q4).symm.trans hyp
          refine V_weak (lv' := [none, none, none, none]) (lvle_n (lvle_n (lvle_n (lvle_n lvle_0)))) ?_
          exact (T_X2_leaf_b40 C ho) h hyp
        · replace hyp := (if_neg q4).symm.trans hyp
          refine V_aload_n (pc := 31) C dX2_leaf_31 rfl ?_
          refine V_getR (pc := 32) C dX2_leaf_32 lf_X2_9 (fkC_0 ho) ?_
          refine V_iload_n (pc := 35) C dX2_leaf_35 rfl ?_
          obtain ⟨g5, hyp⟩ := gd_n hyp
          refine V_iald (pc := 36) C dX2_leaf_36 (akC_1 ho) g5 ?_
          refine V_goto (pc := 37) C dX2_leaf_37 (tgt := 41) (by decide) ?_
          cases hyp
          exact V_iret C dX2_leaf_41
    · replace hyp := (if_pos q2).symm.trans hyp
      refine V_iload_n (pc := 12) C dX2_leaf_12 rfl ?_
      refine V_iload_n (pc := 13) C dX2_leaf_13 rfl ?_
      refine V_ishr (pc := 14) C dX2_leaf_14 ?_
      refine V_iconst (pc := 15) C dX2_leaf_15 (v := 1) (by decide) ?_
      refine V_iand (pc := 16) C dX2_leaf_16 ?_
      cases hyp
      exact V_iret C dX2_leaf_17
  · replace hyp := (if_pos q1).symm.trans hyp
    refine V_iload_n (pc := 5) C dX2_leaf_5 rfl ?_
    cases hyp
    exact V_iret C dX2_leaf_6
theorem dX2_joined_0 : decode cX2_joined 0 = .ok (.iload_n 0, 1) := by decide +kernel
theorem dX2_joined_1 : decode cX2_joined 1 = .ok (.tableswitch 133 6 20 #[103, 114, 125, 129, 133, 133, 133, 133, 133, 133, 133, 133, 133, 75, 89], 75) := by decide +kernel
theorem dX2_joined_76 : decode cX2_joined 76 = .ok (.iload_n 1, 1) := by decide +kernel
theorem dX2_joined_77 : decode cX2_joined 77 = .ok (.ifCond .eq 11, 3) := by decide +kernel
theorem dX2_joined_80 : decode cX2_joined 80 = .ok (.iload_n 2, 1) := by decide +kernel
theorem dX2_joined_81 : decode cX2_joined 81 = .ok (.ifCond .eq 7, 3) := by decide +kernel
theorem dX2_joined_84 : decode cX2_joined 84 = .ok (.iconst 1, 1) := by decide +kernel
theorem dX2_joined_85 : decode cX2_joined 85 = .ok (.goto 4, 3) := by decide +kernel
theorem dX2_joined_88 : decode cX2_joined 88 = .ok (.iconst 0, 1) := by decide +kernel
theorem dX2_joined_89 : decode cX2_joined 89 = .ok (.ireturn, 1) := by decide +kernel
theorem dX2_joined_90 : decode cX2_joined 90 = .ok (.iload_n 1, 1) := by decide +kernel
theorem dX2_joined_91 : decode cX2_joined 91 = .ok (.ifCond .ne 7, 3) := by decide +kernel
theorem dX2_joined_94 : decode cX2_joined 94 = .ok (.iload_n 2, 1) := by decide +kernel
theorem dX2_joined_95 : decode cX2_joined 95 = .ok (.ifCond .eq 7, 3) := by decide +kernel
theorem dX2_joined_98 : decode cX2_joined 98 = .ok (.iconst 1, 1) := by decide +kernel
theorem dX2_joined_99 : decode cX2_joined 99 = .ok (.goto 4, 3) := by decide +kernel
theorem dX2_joined_102 : decode cX2_joined 102 = .ok (.iconst 0, 1) := by decide +kernel
theorem dX2_joined_103 : decode cX2_joined 103 = .ok (.ireturn, 1) := by decide +kernel
theorem dX2_joined_104 : decode cX2_joined 104 = .ok (.iload_n 1, 1) := by decide +kernel
theorem dX2_joined_105 : decode cX2_joined 105 = .ok (.iload_n 2, 1) := by decide +kernel
theorem dX2_joined_106 : decode cX2_joined 106 = .ok (.if_icmp .ge 7, 3) := by decide +kernel
theorem dX2_joined_109 : decode cX2_joined 109 = .ok (.iconst 1, 1) := by decide +kernel
theorem dX2_joined_110 : decode cX2_joined 110 = .ok (.goto 4, 3) := by decide +kernel
theorem dX2_joined_113 : decode cX2_joined 113 = .ok (.iconst 0, 1) := by decide +kernel
theorem dX2_joined_114 : decode cX2_joined 114 = .ok (.ireturn, 1) := by decide +kernel
theorem dX2_joined_115 : decode cX2_joined 115 = .ok (.iload_n 1, 1) := by decide +kernel
theorem dX2_joined_116 : decode cX2_joined 116 = .ok (.iload_n 2, 1) := by decide +kernel
theorem dX2_joined_117 : decode cX2_joined 117 = .ok (.if_icmp .ne 7, 3) := by decide +kernel
theorem dX2_joined_120 : decode cX2_joined 120 = .ok (.iconst 1, 1) := by decide +kernel
theorem dX2_joined_121 : decode cX2_joined 121 = .ok (.goto 4, 3) := by decide +kernel
theorem dX2_joined_124 : decode cX2_joined 124 = .ok (.iconst 0, 1) := by decide +kernel
theorem dX2_joined_125 : decode cX2_joined 125 = .ok (.ireturn, 1) := by decide +kernel
theorem dX2_joined_126 : decode cX2_joined 126 = .ok (.iload_n 1, 1) := by decide +kernel
theorem dX2_joined_127 : decode cX2_joined 127 = .ok (.iload_n 2, 1) := by decide +kernel
theorem dX2_joined_128 : decode cX2_joined 128 = .ok (.iadd, 1) := by decide +kernel
theorem dX2_joined_129 : decode cX2_joined 129 = .ok (.ireturn, 1) := by decide +kernel
theorem dX2_joined_130 : decode cX2_joined 130 = .ok (.iload_n 1, 1) := by decide +kernel
theorem dX2_joined_131 : decode cX2_joined 131 = .ok (.iload_n 2, 1) := by decide +kernel
theorem dX2_joined_132 : decode cX2_joined 132 = .ok (.isub, 1) := by decide +kernel
theorem dX2_joined_133 : decode cX2_joined 133 = .ok (.ireturn, 1) := by decide +kernel
theorem dX2_joined_134 : decode cX2_joined 134 = .ok (.iload_n 1, 1) := by decide +kernel
theorem dX2_joined_135 : decode cX2_joined 135 = .ok (.iload_n 2, 1) := by decide +kernel
theorem dX2_joined_136 : decode cX2_joined 136 = .ok (.imul, 1) := by decide +kernel
theorem dX2_joined_137 : decode cX2_joined 137 = .ok (.ireturn, 1) := by decide +kernel
def F_X2_joined_b88 (h : PH) : Option (Int32 × PH) :=
  some ((0 : Int32), h)
set_option maxRecDepth 20000 in
set_option maxHeartbeats 4000000 in
theorem T_X2_joined_b88 {X : CT} (C : CX X 103 cX2_joined 3 RX2 (some .int) 0 0) {r0 : Int32} {h0 : PH} : ∀ (h : PH), F_X2_joined_b88  h = some (r0, h0) → V X (QI X r0 h0) h 88 [none, none, none] [] := by
  intro  h hyp
  unfold F_X2_joined_b88 at hyp
  refine V_iconst (pc := 88) C dX2_joined_88 (v := 0) (by decide) ?_
  cases hyp
  exact V_iret C dX2_joined_89
def F_X2_joined_b98 (h : PH) : Option (Int32 × PH) :=
  some ((1 : Int32), h)
set_option maxRecDepth 20000 in
set_option maxHeartbeats 4000000 in
theorem T_X2_joined_b98 {X : CT} (C : CX X 103 cX2_joined 3 RX2 (some .int) 0 0) {r0 : Int32} {h0 : PH} : ∀ (h : PH), F_X2_joined_b98  h = some (r0, h0) → V X (QI X r0 h0) h 98 [none, none, none] [] := by
  intro  h hyp
  unfold F_X2_joined_b98 at hyp
  refine V_iconst (pc := 98) C dX2_joined_98 (v := 1) (by decide) ?_
  refine V_goto (pc := 99) C dX2_joined_99 (tgt := 103) (by decide) ?_
  cases hyp
  exact V_iret C dX2_joined_103
def F_X2_joined_b134 (x1 : Int32) (x2 : Int32) (h : PH) : Option (Int32 × PH) :=
  some (x1 * x2, h)
set_option maxRecDepth 20000 in
set_option maxHeartbeats 4000000 in
theorem T_X2_joined_b134 {X : CT} (C : CX X 103 cX2_joined 3 RX2 (some .int) 0 0) {r0 : Int32} {h0 : PH} : ∀ (x1 : Int32) (x2 : Int32) (h : PH), F_X2_joined_b134 x1 x2 h = some (r0, h0) → V X (QI X r0 h0) h 134 [none, some (.int x1), some (.int x2)] [] := by
  intro x1 x2 h hyp
  unfold F_X2_joined_b134 at hyp
  refine V_iload_n (pc := 134) C dX2_joined_134 rfl ?_
  refine V_iload_n (pc := 135) C dX2_joined_135 rfl ?_
  refine V_imul (pc := 136) C dX2_joined_136 ?_
  cases hyp
  exact V_iret C dX2_joined_137
def F_X2_joined (a1 : Int32) (a2 : Int32) (a3 : Int32) (h : PH) : Option (Int32 × PH) :=
  if a1 = (6 : Int32) then
    if a3 ≤ a2 then
      some ((0 : Int32), h)
    else
      some ((1 : Int32), h)
  else
  if a1 = (7 : Int32) then
    if a2 = a3 then
      some ((1 : Int32), h)
    else
      some ((0 : Int32), h)
  else
  if a1 = (8 : Int32) then
    some (a2 + a3, h)
  else
  if a1 = (9 : Int32) then
    some (a2 - a3, h)
  else
  if a1 = (10 : Int32) then
    F_X2_joined_b134 a2 a3 h
  else
  if a1 = (11 : Int32) then
    F_X2_joined_b134 a2 a3 h
  else
  if a1 = (12 : Int32) then
    F_X2_joined_b134 a2 a3 h
  else
  if a1 = (13 : Int32) then
    F_X2_joined_b134 a2 a3 h
  else
  if a1 = (14 : Int32) then
    F_X2_joined_b134 a2 a3 h
  else
  if a1 = (15 : Int32) then
    F_X2_joined_b134 a2 a3 h
  else
  if a1 = (16 : Int32) then
    F_X2_joined_b134 a2 a3 h
  else
  if a1 = (17 : Int32) then
    F_X2_joined_b134 a2 a3 h
  else
  if a1 = (18 : Int32) then
    F_X2_joined_b134 a2 a3 h
  else
  if a1 = (19 : Int32) then
    if a2 = 0 then
      F_X2_joined_b88  h
    else
      if a3 = 0 then
        F_X2_joined_b88  h
      else
        some ((1 : Int32), h)
  else
  if a1 = (20 : Int32) then
    if a2 = 0 then
      if a3 = 0 then
        some ((0 : Int32), h)
      else
        F_X2_joined_b98  h
    else
      F_X2_joined_b98  h
  else
  F_X2_joined_b134 a2 a3 h
set_option maxRecDepth 20000 in
set_option maxHeartbeats 4000000 in
theorem M_X2_joined (E : EV) {a1 : Int32} {a2 : Int32} {a3 : Int32} {r : Int32} {h h2 : PH} (hyp : F_X2_joined a1 a2 a3 h = some (r, h2)) : MI E 103 yX2_joined cX2_joined 3 (some .int) 0 0 [.int a1, .int a2, .int a3] h r h2 := by
  refine MI.of 0 (by decide) rfl (fun X e1 C => ?_)
  subst e1
  replace C : CX X 103 cX2_joined 3 RX2 (some .int) 0 0 := C
  show V X _ h 0 [some (.int a1), some (.int a2), some (.int a3)] []
  unfold F_X2_joined at hyp
  refine V_iload_n (pc := 0) C dX2_joined_0 rfl ?_
  by_cases q1 : a1 = (6 : Int32)
  · replace hyp := (if_pos q1).symm.trans hyp
    refine V_tsIn (pc := 1) C (6 : Int32) dX2_joined_1 (off := 103) (tgt := 104) q1 (by decide) (by decide) rfl (by decide) ?_
    refine V_iload_n (pc := 104) C dX2_joined_104 rfl ?_
    refine V_iload_n (pc := 105) C dX2_joined_105 rfl ?_
    refine V_icmp_ge (pc := 106) C dX2_joined_106 (tgt := 113) (by decide) (fun q2 => ?_) (fun q2 => ?_)
    · replace hyp := (if_pos q2).symm.trans hyp
      refine V_iconst (pc := 113) C dX2_joined_113 (v := 0) (by decide) ?_
      cases hyp
      exact V_iret C dX2_joined_114
    · replace hyp := (if_neg q2).symm.trans hyp
      refine V_iconst (pc := 109) C dX2_joined_109 (v := 1) (by decide) ?_
      refine V_goto (pc := 110) C dX2_joined_110 (tgt := 114) (by decide) ?_
      cases hyp
      exact V_iret C dX2_joined_114
  · replace hyp := (if_neg q1).symm.trans hyp
    by_cases q3 : a1 = (7 : Int32)
    · replace hyp := (if_pos q3).symm.trans hyp
      refine V_tsIn (pc := 1) C (7 : Int32) dX2_joined_1 (off := 114) (tgt := 115) q3 (by decide) (by decide) rfl (by decide) ?_
      refine V_iload_n (pc := 115) C dX2_joined_115 rfl ?_
      refine V_iload_n (pc := 116) C dX2_joined_116 rfl ?_
      refine V_icmp_ne (pc := 117) C dX2_joined_117 (tgt := 124) (by decide) (fun q4 => ?_) (fun q4 => ?_)
      · replace hyp := (if_neg q4).symm.trans hyp
        refine V_iconst (pc := 124) C dX2_joined_124 (v := 0) (by decide) ?_
        cases hyp
        exact V_iret C dX2_joined_125
      · replace hyp := (if_pos q4).symm.trans hyp
        refine V_iconst (pc := 120) C dX2_joined_120 (v := 1) (by decide) ?_
        refine V_goto (pc := 121) C dX2_joined_121 (tgt := 125) (by decide) ?_
        cases hyp
        exact V_iret C dX2_joined_125
    · replace hyp := (if_neg q3).symm.trans hyp
      by_cases q5 : a1 = (8 : Int32)
      · replace hyp := (if_pos q5).symm.trans hyp
        refine V_tsIn (pc := 1) C (8 : Int32) dX2_joined_1 (off := 125) (tgt := 126) q5 (by decide) (by decide) rfl (by decide) ?_
        refine V_iload_n (pc := 126) C dX2_joined_126 rfl ?_
        refine V_iload_n (pc := 127) C dX2_joined_127 rfl ?_
        refine V_iadd (pc := 128) C dX2_joined_128 ?_
        cases hyp
        exact V_iret C dX2_joined_129
      · replace hyp := (if_neg q5).symm.trans hyp
        by_cases q6 : a1 = (9 : Int32)
        · replace hyp := (if_pos q6).symm.trans hyp
          refine V_tsIn (pc := 1) C (9 : Int32) dX2_joined_1 (off := 129) (tgt := 130) q6 (by decide) (by decide) rfl (by decide) ?_
          refine V_iload_n (pc := 130) C dX2_joined_130 rfl ?_
          refine V_iload_n (pc := 131) C dX2_joined_131 rfl ?_
          refine V_isub (pc := 132) C dX2_joined_132 ?_
          cases hyp
          exact V_iret C dX2_joined_133
        · replace hyp := (if_neg q6).symm.trans hyp
          by_cases q7 : a1 = (10 : Int32)
          · replace hyp := (if_pos q7).symm.trans hyp
            refine V_tsIn (pc := 1) C (10 : Int32) dX2_joined_1 (off := 133) (tgt := 134) q7 (by decide) (by decide) rfl (by decide) ?_
            refine V_weak (lv' := [none, some (.int a2), some (.int a3)]) (lvle_n (lvle_s (lvle_s lvle_0))) ?_
            exact (T_X2_joined_b134 C) a2 a3 h hyp
          · replace hyp := (if_neg q7).symm.trans hyp
            by_cases q8 : a1 = (11 : Int32)
            · replace hyp := (if_pos q8).symm.trans hyp
              refine V_tsIn (pc := 1) C (11 : Int32) dX2_joined_1 (off := 133) (tgt := 134) q8 (by decide) (by decide) rfl (by decide) ?_
              refine V_weak (lv' := [none, some (.int a2), some (.int a3)]) (lvle_n (lvle_s (lvle_s lvle_0))) ?_
              exact (T_X2_joined_b134 C) a2 a3 h hyp
            · replace hyp := (if_neg q8).symm.trans hyp
              by_cases q9 : a1 = (12 : Int32)
              · replace hyp := (if_pos q9).symm.trans hyp
                refine V_tsIn (pc := 1) C (12 : Int32) dX2_joined_1 (off := 133) (tgt := 134) q9 (by decide) (by decide) rfl (by decide) ?_
                refine V_weak (lv' := [none, some (.int a2), some (.int a3)]) (lvle_n (lvle_s (lvle_s lvle_0))) ?_
                exact (T_X2_joined_b134 C) a2 a3 h hyp
              · replace hyp := (if_neg q9).symm.trans hyp
                by_cases q10 : a1 = (13 : Int32)
                · replace hyp := (if_pos q10).symm.trans hyp
                  refine V_tsIn (pc := 1) C (13 : Int32) dX2_joined_1 (off := 133) (tgt := 134) q10 (by decide) (by decide) rfl (by decide) ?_
                  refine V_weak (lv' := [none, some (.int a2), some (.int a3)]) (lvle_n (lvle_s (lvle_s lvle_0))) ?_
                  exact (T_X2_joined_b134 C) a2 a3 h hyp
                · replace hyp := (if_neg q10).symm.trans hyp
                  by_cases q11 : a1 = (14 : Int32)
                  · replace hyp := (if_pos q11).symm.trans hyp
                    refine V_tsIn (pc := 1) C (14 : Int32) dX2_joined_1 (off := 133) (tgt := 134) q11 (by decide) (by decide) rfl (by decide) ?_
                    refine V_weak (lv' := [none, some (.int a2), some (.int a3)]) (lvle_n (lvle_s (lvle_s lvle_0))) ?_
                    exact (T_X2_joined_b134 C) a2 a3 h hyp
                  · replace hyp := (if_neg q11).symm.trans hyp
                    by_cases q12 : a1 = (15 : Int32)
                    · replace hyp := (if_pos q12).symm.trans hyp
                      refine V_tsIn (pc := 1) C (15 : Int32) dX2_joined_1 (off := 133) (tgt := 134) q12 (by decide) (by decide) rfl (by decide) ?_
                      refine V_weak (lv' := [none, some (.int a2), some (.int a3)]) (lvle_n (lvle_s (lvle_s lvle_0))) ?_
                      exact (T_X2_joined_b134 C) a2 a3 h hyp
                    · replace hyp := (if_neg q12).symm.trans hyp
                      by_cases q13 : a1 = (16 : Int32)
                      · replace hyp := (if_pos q13).symm.trans hyp
                        refine V_tsIn (pc := 1) C (16 : Int32) dX2_joined_1 (off := 133) (tgt := 134) q13 (by decide) (by decide) rfl (by decide) ?_
                        refine V_weak (lv' := [none, some (.int a2), some (.int a3)]) (lvle_n (lvle_s (lvle_s lvle_0))) ?_
                        exact (T_X2_joined_b134 C) a2 a3 h hyp
                      · replace hyp := (if_neg q13).symm.trans hyp
                        by_cases q14 : a1 = (17 : Int32)
                        · replace hyp := (if_pos q14).symm.trans hyp
                          refine V_tsIn (pc := 1) C (17 : Int32) dX2_joined_1 (off := 133) (tgt := 134) q14 (by decide) (by decide) rfl (by decide) ?_
                          refine V_weak (lv' := [none, some (.int a2), some (.int a3)]) (lvle_n (lvle_s (lvle_s lvle_0))) ?_
                          exact (T_X2_joined_b134 C) a2 a3 h hyp
                        · replace hyp := (if_neg q14).symm.trans hyp
                          by_cases q15 : a1 = (18 : Int32)
                          · replace hyp := (if_pos q15).symm.trans hyp
                            refine V_tsIn (pc := 1) C (18 : Int32) dX2_joined_1 (off := 133) (tgt := 134) q15 (by decide) (by decide) rfl (by decide) ?_
                            refine V_weak (lv' := [none, some (.int a2), some (.int a3)]) (lvle_n (lvle_s (lvle_s lvle_0))) ?_
                            exact (T_X2_joined_b134 C) a2 a3 h hyp
                          · replace hyp := (if_neg q15).symm.trans hyp
                            by_cases q16 : a1 = (19 : Int32)
                            · replace hyp := (if_pos q16).symm.trans hyp
                              refine V_tsIn (pc := 1) C (19 : Int32) dX2_joined_1 (off := 75) (tgt := 76) q16 (by decide) (by decide) rfl (by decide) ?_
                              refine V_iload_n (pc := 76) C dX2_joined_76 rfl ?_
                              refine V_if_eq (pc := 77) C dX2_joined_77 (tgt := 88) (by decide) (fun q17 => ?_) (fun q17 => ?_)
                              · replace hyp := (if_pos q17).symm.trans hyp
                                refine V_weak (lv' := [none, none, none]) (lvle_n (lvle_n (lvle_n lvle_0))) ?_
                                exact (T_X2_joined_b88 C) h hyp
                              · replace hyp := (if_neg q17).symm.trans hyp
                                refine V_iload_n (pc := 80) C dX2_joined_80 rfl ?_
                                refine V_if_eq (pc := 81) C dX2_joined_81 (tgt := 88) (by decide) (fun q18 => ?_) (fun q18 => ?_)
                                · replace hyp := (if_pos q18).symm.trans hyp
                                  refine V_weak (lv' := [none, none, none]) (lvle_n (lvle_n (lvle_n lvle_0))) ?_
                                  exact (T_X2_joined_b88 C) h hyp
                                · replace hyp := (if_neg q18).symm.trans hyp
                                  refine V_iconst (pc := 84) C dX2_joined_84 (v := 1) (by decide) ?_
                                  refine V_goto (pc := 85) C dX2_joined_85 (tgt := 89) (by decide) ?_
                                  cases hyp
                                  exact V_iret C dX2_joined_89
                            · replace hyp := (if_neg q16).symm.trans hyp
                              by_cases q19 : a1 = (20 : Int32)
                              · replace hyp := (if_pos q19).symm.trans hyp
                                refine V_tsIn (pc := 1) C (20 : Int32) dX2_joined_1 (off := 89) (tgt := 90) q19 (by decide) (by decide) rfl (by decide) ?_
                                refine V_iload_n (pc := 90) C dX2_joined_90 rfl ?_
                                refine V_if_ne (pc := 91) C dX2_joined_91 (tgt := 98) (by decide) (fun q20 => ?_) (fun q20 => ?_)
                                · replace hyp := (if_neg q20).symm.trans hyp
                                  refine V_weak (lv' := [none, none, none]) (lvle_n (lvle_n (lvle_n lvle_0))) ?_
                                  exact (T_X2_joined_b98 C) h hyp
                                · replace hyp := (if_pos q20).symm.trans hyp
                                  refine V_iload_n (pc := 94) C dX2_joined_94 rfl ?_
                                  refine V_if_eq (pc := 95) C dX2_joined_95 (tgt := 102) (by decide) (fun q21 => ?_) (fun q21 => ?_)
                                  · replace hyp := (if_pos q21).symm.trans hyp
                                    refine V_iconst (pc := 102) C dX2_joined_102 (v := 0) (by decide) ?_
                                    cases hyp
                                    exact V_iret C dX2_joined_103
                                  · replace hyp := (if_neg q21).symm.trans hyp
                                    refine V_weak (lv' := [none, none, none]) (lvle_n (lvle_n (lvle_n lvle_0))) ?_
                                    exact (T_X2_joined_b98 C) h hyp
                              · replace hyp := (if_neg q19).symm.trans hyp
                                refine V_tsOut (pc := 1) C dX2_joined_1 (tgt := 134) (fun k k1 k2 => ?_) (by decide) ?_
                                · rcases (show k = 6 ∨ k = 7 ∨ k = 8 ∨ k = 9 ∨ k = 10 ∨ k = 11 ∨ k = 12 ∨ k = 13 ∨ k = 14 ∨ k = 15 ∨ k = 16 ∨ k = 17 ∨ k = 18 ∨ k = 19 ∨ k = 20 by omega) with rfl | rfl | rfl | rfl | rfl | rfl | rfl | rfl | rfl | rfl | rfl | rfl | rfl | rfl | rfl
                                  · exact q1
                                  · exact q3
                                  · exact q5
                                  · exact q6
                                  · exact q7
                                  · exact q8
                                  · exact q9
                                  · exact q10
                                  · exact q11
                                  · exact q12
                                  · exact q13
                                  · exact q14
                                  · exact q15
                                  · exact q16
                                  · exact q19
                                · refine V_weak (lv' := [none, some (.int a2), some (.int a3)]) (lvle_n (lvle_s (lvle_s lvle_0))) ?_
                                  exact (T_X2_joined_b134 C) a2 a3 h hyp
theorem dX2_value_0 : decode cX2_value 0 = .ok (.iconst 0, 1) := by decide +kernel
theorem dX2_value_1 : decode cX2_value 1 = .ok (.istore_n 3, 1) := by decide +kernel
theorem dX2_value_2 : decode cX2_value 2 = .ok (.aload_n 0, 1) := by decide +kernel
theorem dX2_value_3 : decode cX2_value 3 = .ok (.getfield 21, 3) := by decide +kernel
theorem dX2_value_6 : decode cX2_value 6 = .ok (.iload_n 1, 1) := by decide +kernel
theorem dX2_value_7 : decode cX2_value 7 = .ok (.iaload, 1) := by decide +kernel
theorem dX2_value_8 : decode cX2_value 8 = .ok (.istore 4, 2) := by decide +kernel
theorem dX2_value_10 : decode cX2_value 10 = .ok (.aload_n 0, 1) := by decide +kernel
theorem dX2_value_11 : decode cX2_value 11 = .ok (.getfield 18, 3) := by decide +kernel
theorem dX2_value_14 : decode cX2_value 14 = .ok (.iload_n 1, 1) := by decide +kernel
theorem dX2_value_15 : decode cX2_value 15 = .ok (.iaload, 1) := by decide +kernel
theorem dX2_value_16 : decode cX2_value 16 = .ok (.istore 5, 2) := by decide +kernel
theorem dX2_value_18 : decode cX2_value 18 = .ok (.iload 5, 2) := by decide +kernel
theorem dX2_value_20 : decode cX2_value 20 = .ok (.iload 4, 2) := by decide +kernel
theorem dX2_value_22 : decode cX2_value 22 = .ok (.if_icmp .ge 159, 3) := by decide +kernel
theorem dX2_value_25 : decode cX2_value 25 = .ok (.aload_n 0, 1) := by decide +kernel
theorem dX2_value_26 : decode cX2_value 26 = .ok (.getfield 15, 3) := by decide +kernel
theorem dX2_value_29 : decode cX2_value 29 = .ok (.iload 5, 2) := by decide +kernel
theorem dX2_value_31 : decode cX2_value 31 = .ok (.iaload, 1) := by decide +kernel
theorem dX2_value_32 : decode cX2_value 32 = .ok (.bipush 63, 2) := by decide +kernel
theorem dX2_value_34 : decode cX2_value 34 = .ok (.iand, 1) := by decide +kernel
theorem dX2_value_35 : decode cX2_value 35 = .ok (.istore 6, 2) := by decide +kernel
theorem dX2_value_37 : decode cX2_value 37 = .ok (.aload_n 0, 1) := by decide +kernel
theorem dX2_value_38 : decode cX2_value 38 = .ok (.getfield 15, 3) := by decide +kernel
theorem dX2_value_41 : decode cX2_value 41 = .ok (.iload 5, 2) := by decide +kernel
theorem dX2_value_43 : decode cX2_value 43 = .ok (.iaload, 1) := by decide +kernel
theorem dX2_value_44 : decode cX2_value 44 = .ok (.bipush 6, 2) := by decide +kernel
theorem dX2_value_46 : decode cX2_value 46 = .ok (.ishr, 1) := by decide +kernel
theorem dX2_value_47 : decode cX2_value 47 = .ok (.istore 7, 2) := by decide +kernel
theorem dX2_value_49 : decode cX2_value 49 = .ok (.iload 6, 2) := by decide +kernel
theorem dX2_value_51 : decode cX2_value 51 = .ok (.iconst 2, 1) := by decide +kernel
theorem dX2_value_52 : decode cX2_value 52 = .ok (.if_icmp .eq 16, 3) := by decide +kernel
theorem dX2_value_55 : decode cX2_value 55 = .ok (.iload 6, 2) := by decide +kernel
theorem dX2_value_57 : decode cX2_value 57 = .ok (.iconst 3, 1) := by decide +kernel
theorem dX2_value_58 : decode cX2_value 58 = .ok (.if_icmp .eq 10, 3) := by decide +kernel
theorem dX2_value_61 : decode cX2_value 61 = .ok (.iload 6, 2) := by decide +kernel
theorem dX2_value_63 : decode cX2_value 63 = .ok (.bipush 25, 2) := by decide +kernel
theorem dX2_value_65 : decode cX2_value 65 = .ok (.if_icmp .ne 32, 3) := by decide +kernel
theorem dX2_value_68 : decode cX2_value 68 = .ok (.iload_n 3, 1) := by decide +kernel
theorem dX2_value_69 : decode cX2_value 69 = .ok (.bipush 32, 2) := by decide +kernel
theorem dX2_value_71 : decode cX2_value 71 = .ok (.if_icmp .lt 5, 3) := by decide +kernel
theorem dX2_value_74 : decode cX2_value 74 = .ok (.iconst 0, 1) := by decide +kernel
theorem dX2_value_75 : decode cX2_value 75 = .ok (.ireturn, 1) := by decide +kernel
theorem dX2_value_76 : decode cX2_value 76 = .ok (.aload_n 0, 1) := by decide +kernel
theorem dX2_value_77 : decode cX2_value 77 = .ok (.getfield 24, 3) := by decide +kernel
theorem dX2_value_80 : decode cX2_value 80 = .ok (.iload_n 3, 1) := by decide +kernel
theorem dX2_value_81 : decode cX2_value 81 = .ok (.aload_n 0, 1) := by decide +kernel
theorem dX2_value_82 : decode cX2_value 82 = .ok (.iload 6, 2) := by decide +kernel
theorem dX2_value_84 : decode cX2_value 84 = .ok (.iload 7, 2) := by decide +kernel
theorem dX2_value_86 : decode cX2_value 86 = .ok (.iload_n 2, 1) := by decide +kernel
theorem dX2_value_87 : decode cX2_value 87 = .ok (.invokevirtual 46, 3) := by decide +kernel
theorem dX2_value_90 : decode cX2_value 90 = .ok (.iastore, 1) := by decide +kernel
theorem dX2_value_91 : decode cX2_value 91 = .ok (.iinc 3 1, 3) := by decide +kernel
theorem dX2_value_94 : decode cX2_value 94 = .ok (.goto 81, 3) := by decide +kernel
theorem dX2_value_97 : decode cX2_value 97 = .ok (.iload 6, 2) := by decide +kernel
theorem dX2_value_99 : decode cX2_value 99 = .ok (.bipush 18, 2) := by decide +kernel
theorem dX2_value_101 : decode cX2_value 101 = .ok (.if_icmp .ne 37, 3) := by decide +kernel
theorem dX2_value_104 : decode cX2_value 104 = .ok (.iload_n 3, 1) := by decide +kernel
theorem dX2_value_105 : decode cX2_value 105 = .ok (.iconst 1, 1) := by decide +kernel
theorem dX2_value_106 : decode cX2_value 106 = .ok (.if_icmp .ge 5, 3) := by decide +kernel
theorem dX2_value_109 : decode cX2_value 109 = .ok (.iconst 0, 1) := by decide +kernel
theorem dX2_value_110 : decode cX2_value 110 = .ok (.ireturn, 1) := by decide +kernel
theorem dX2_value_111 : decode cX2_value 111 = .ok (.aload_n 0, 1) := by decide +kernel
theorem dX2_value_112 : decode cX2_value 112 = .ok (.getfield 24, 3) := by decide +kernel
theorem dX2_value_115 : decode cX2_value 115 = .ok (.iload_n 3, 1) := by decide +kernel
theorem dX2_value_116 : decode cX2_value 116 = .ok (.iconst 1, 1) := by decide +kernel
theorem dX2_value_117 : decode cX2_value 117 = .ok (.isub, 1) := by decide +kernel
theorem dX2_value_118 : decode cX2_value 118 = .ok (.aload_n 0, 1) := by decide +kernel
theorem dX2_value_119 : decode cX2_value 119 = .ok (.getfield 24, 3) := by decide +kernel
theorem dX2_value_122 : decode cX2_value 122 = .ok (.iload_n 3, 1) := by decide +kernel
theorem dX2_value_123 : decode cX2_value 123 = .ok (.iconst 1, 1) := by decide +kernel
theorem dX2_value_124 : decode cX2_value 124 = .ok (.isub, 1) := by decide +kernel
theorem dX2_value_125 : decode cX2_value 125 = .ok (.iaload, 1) := by decide +kernel
theorem dX2_value_126 : decode cX2_value 126 = .ok (.ifCond .ne 7, 3) := by decide +kernel
theorem dX2_value_129 : decode cX2_value 129 = .ok (.iconst 1, 1) := by decide +kernel
theorem dX2_value_130 : decode cX2_value 130 = .ok (.goto 4, 3) := by decide +kernel
theorem dX2_value_133 : decode cX2_value 133 = .ok (.iconst 0, 1) := by decide +kernel
theorem dX2_value_134 : decode cX2_value 134 = .ok (.iastore, 1) := by decide +kernel
theorem dX2_value_135 : decode cX2_value 135 = .ok (.goto 40, 3) := by decide +kernel
theorem dX2_value_138 : decode cX2_value 138 = .ok (.iload_n 3, 1) := by decide +kernel
theorem dX2_value_139 : decode cX2_value 139 = .ok (.iconst 2, 1) := by decide +kernel
theorem dX2_value_140 : decode cX2_value 140 = .ok (.if_icmp .ge 5, 3) := by decide +kernel
theorem dX2_value_143 : decode cX2_value 143 = .ok (.iconst 0, 1) := by decide +kernel
theorem dX2_value_144 : decode cX2_value 144 = .ok (.ireturn, 1) := by decide +kernel
theorem dX2_value_145 : decode cX2_value 145 = .ok (.iinc 3 (-1), 3) := by decide +kernel
theorem dX2_value_148 : decode cX2_value 148 = .ok (.aload_n 0, 1) := by decide +kernel
theorem dX2_value_149 : decode cX2_value 149 = .ok (.getfield 24, 3) := by decide +kernel
theorem dX2_value_152 : decode cX2_value 152 = .ok (.iload_n 3, 1) := by decide +kernel
theorem dX2_value_153 : decode cX2_value 153 = .ok (.iconst 1, 1) := by decide +kernel
theorem dX2_value_154 : decode cX2_value 154 = .ok (.isub, 1) := by decide +kernel
theorem dX2_value_155 : decode cX2_value 155 = .ok (.iload 6, 2) := by decide +kernel
theorem dX2_value_157 : decode cX2_value 157 = .ok (.aload_n 0, 1) := by decide +kernel
theorem dX2_value_158 : decode cX2_value 158 = .ok (.getfield 24, 3) := by decide +kernel
theorem dX2_value_161 : decode cX2_value 161 = .ok (.iload_n 3, 1) := by decide +kernel
theorem dX2_value_162 : decode cX2_value 162 = .ok (.iconst 1, 1) := by decide +kernel
theorem dX2_value_163 : decode cX2_value 163 = .ok (.isub, 1) := by decide +kernel
theorem dX2_value_164 : decode cX2_value 164 = .ok (.iaload, 1) := by decide +kernel
theorem dX2_value_165 : decode cX2_value 165 = .ok (.aload_n 0, 1) := by decide +kernel
theorem dX2_value_166 : decode cX2_value 166 = .ok (.getfield 24, 3) := by decide +kernel
theorem dX2_value_169 : decode cX2_value 169 = .ok (.iload_n 3, 1) := by decide +kernel
theorem dX2_value_170 : decode cX2_value 170 = .ok (.iaload, 1) := by decide +kernel
theorem dX2_value_171 : decode cX2_value 171 = .ok (.invokestatic 50, 3) := by decide +kernel
theorem dX2_value_174 : decode cX2_value 174 = .ok (.iastore, 1) := by decide +kernel
theorem dX2_value_175 : decode cX2_value 175 = .ok (.iinc 5 1, 3) := by decide +kernel
theorem dX2_value_178 : decode cX2_value 178 = .ok (.goto (-160), 3) := by decide +kernel
theorem dX2_value_181 : decode cX2_value 181 = .ok (.iload_n 3, 1) := by decide +kernel
theorem dX2_value_182 : decode cX2_value 182 = .ok (.iconst 1, 1) := by decide +kernel
theorem dX2_value_183 : decode cX2_value 183 = .ok (.if_icmp .ne 12, 3) := by decide +kernel
theorem dX2_value_186 : decode cX2_value 186 = .ok (.aload_n 0, 1) := by decide +kernel
theorem dX2_value_187 : decode cX2_value 187 = .ok (.getfield 24, 3) := by decide +kernel
theorem dX2_value_190 : decode cX2_value 190 = .ok (.iconst 0, 1) := by decide +kernel
theorem dX2_value_191 : decode cX2_value 191 = .ok (.iaload, 1) := by decide +kernel
theorem dX2_value_192 : decode cX2_value 192 = .ok (.goto 4, 3) := by decide +kernel
theorem dX2_value_195 : decode cX2_value 195 = .ok (.iconst 0, 1) := by decide +kernel
theorem dX2_value_196 : decode cX2_value 196 = .ok (.ireturn, 1) := by decide +kernel
def F_X2_value_b175 (N : Nat) (o : Nat) (rc18 : Int32 → Int32 → Int32 → Int32 → PH → Option (Int32 × PH)) (x2 : Int32) (x3 : Int32) (x4 : Int32) (x5 : Int32) (h : PH) : Option (Int32 × PH) :=
  ib (x5 + (1 : Int32)) fun v1 =>
  rc18 x2 x3 x4 v1 h
set_option maxRecDepth 20000 in
set_option maxHeartbeats 4000000 in
theorem T_X2_value_b175 {X : CT} (C : CX X 103 cX2_value 8 RX2 (some .int) 1 23) {r0 : Int32} {h0 : PH} {N : Nat} {o : Nat} (ho : ISC o) {rc18 : Int32 → Int32 → Int32 → Int32 → PH → Option (Int32 × PH)} (hr18 : ∀ (x2 : Int32) (x3 : Int32) (x4 : Int32) (x5 : Int32) (h : PH), rc18 x2 x3 x4 x5 h = some (r0, h0) → V X (QI X r0 h0) h 18 [some (.ref o), none, some (.int x2), some (.int x3), some (.int x4), some (.int x5), none, none] []) : ∀ (x2 : Int32) (x3 : Int32) (x4 : Int32) (x5 : Int32) (h : PH), F_X2_value_b175 N o rc18 x2 x3 x4 x5 h = some (r0, h0) → V X (QI X r0 h0) h 175 [some (.ref o), none, some (.int x2), some (.int x3), some (.int x4), some (.int x5), none, none] [] := by
  intro x2 x3 x4 x5 h hyp
  unfold F_X2_value_b175 at hyp
  obtain ⟨v1, ev1, hyp⟩ := ib_n hyp
  refine V_iinc (pc := 175) C dX2_value_175 (v := v1) rfl (by rw [ev1]; rfl) (by decide) rfl ?_
  refine V_goto (pc := 178) C dX2_value_178 (tgt := 18) (by decide) ?_
  refine V_weak (lv' := [some (.ref o), none, some (.int x2), some (.int x3), some (.int x4), some (.int v1), none, none]) (lvle_s (lvle_n (lvle_s (lvle_s (lvle_s (lvle_s (lvle_n (lvle_n lvle_0)))))))) ?_
  exact hr18 x2 x3 x4 v1 h hyp
def F_X2_value_b68 (N : Nat) (o : Nat) (rc18 : Int32 → Int32 → Int32 → Int32 → PH → Option (Int32 × PH)) (x2 : Int32) (x3 : Int32) (x4 : Int32) (x5 : Int32) (x6 : Int32) (x7 : Int32) (h : PH) : Option (Int32 × PH) :=
  if x3 < (32 : Int32) then
    bI (F_X2_leaf o x6 x7 x2 h) fun r2 h3 =>
    if inb x3 32 = true then
    hb (hs h3 (o + 5) x3.toNatClampNeg r2) fun h5 =>
    ib (x3 + (1 : Int32)) fun v6 =>
    F_X2_value_b175 N o rc18 x2 v6 x4 x5 h5
    else none
  else
    some ((0 : Int32), h)
set_option maxRecDepth 20000 in
set_option maxHeartbeats 4000000 in
theorem T_X2_value_b68 {X : CT} (C : CX X 103 cX2_value 8 RX2 (some .int) 1 23) {r0 : Int32} {h0 : PH} {N : Nat} {o : Nat} (ho : ISC o) {rc18 : Int32 → Int32 → Int32 → Int32 → PH → Option (Int32 × PH)} (hr18 : ∀ (x2 : Int32) (x3 : Int32) (x4 : Int32) (x5 : Int32) (h : PH), rc18 x2 x3 x4 x5 h = some (r0, h0) → V X (QI X r0 h0) h 18 [some (.ref o), none, some (.int x2), some (.int x3), some (.int x4), some (.int x5), none, none] []) : ∀ (x2 : Int32) (x3 : Int32) (x4 : Int32) (x5 : Int32) (x6 : Int32) (x7 : Int32) (h : PH), F_X2_value_b68 N o rc18 x2 x3 x4 x5 x6 x7 h = some (r0, h0) → V X (QI X r0 h0) h 68 [some (.ref o), none, some (.int x2), some (.int x3), some (.int x4), some (.int x5), some (.int x6), some (.int x7)] [] := by
  intro x2 x3 x4 x5 x6 x7 h hyp
  unfold F_X2_value_b68 at hyp
  refine V_iload_n (pc := 68) C dX2_value_68 rfl ?_
  refine V_bipush (pc := 69) C dX2_value_69 (v := 32) (by decide) ?_
  refine V_icmp_lt (pc := 71) C dX2_value_71 (tgt := 76) (by decide) (fun q1 => ?_) (fun q1 => ?_)
  · replace hyp := (if_pos q1).symm.trans hyp
    refine V_aload_n (pc := 76) C dX2_value_76 rfl ?_
    refine V_getR (pc := 77) C dX2_value_77 lf_X2_24 (fkC_5 ho) ?_
    refine V_iload_n (pc := 80) C dX2_value_80 rfl ?_
    refine V_aload_n (pc := 81) C dX2_value_81 rfl ?_
    refine V_iload (pc := 82) C dX2_value_82 rfl ?_
    refine V_iload (pc := 84) C dX2_value_84 rfl ?_
    refine V_iload_n (pc := 86) C dX2_value_86 rfl ?_
    obtain ⟨r2, h3, eh3, hyp⟩ := bI_n hyp
    refine V_callI (pc := 87) C dX2_value_87 lm_X2_46 mk_X2_leaf (okC ho) rfl (M_X2_leaf _ ho eh3) rfl pd_X2_leaf (by decide) (by decide) (by decide) (As := [.int x6, .int x7, .int x2]) (rest := [.int x3, .ref (o + 5)]) rfl (Nat.le_of_ble_eq_true rfl) ?_
    obtain ⟨g4, hyp⟩ := gd_n hyp
    obtain ⟨h5, eh5, hyp⟩ := hb_n hyp
    refine V_iast (pc := 90) C dX2_value_90 (akC_5 ho) g4 eh5 ?_
    obtain ⟨v6, ev6, hyp⟩ := ib_n hyp
    refine V_iinc (pc := 91) C dX2_value_91 (v := v6) rfl (by rw [ev6]; rfl) (by decide) rfl ?_
    refine V_goto (pc := 94) C dX2_value_94 (tgt := 175) (by decide) ?_
    refine V_weak (lv' := [some (.ref o), none, some (.int x2), some (.int v6), some (.int x4), some (.int x5), none, none]) (lvle_s (lvle_n (lvle_s (lvle_s (lvle_s (lvle_s (lvle_n (lvle_n lvle_0)))))))) ?_
    exact (T_X2_value_b175 C ho hr18) x2 v6 x4 x5 h5 hyp
  · replace hyp := (if_neg q1).symm.trans hyp
    refine V_iconst (pc := 74) C dX2_value_74 (v := 0) (by decide) ?_
    cases hyp
    exact V_iret C dX2_value_75
def F_X2_value_b134 (N : Nat) (o : Nat) (rc18 : Int32 → Int32 → Int32 → Int32 → PH → Option (Int32 × PH)) (x2 : Int32) (x3 : Int32) (x4 : Int32) (x5 : Int32) (s0 : Int32) (s1 : Int32) (h : PH) : Option (Int32 × PH) :=
  if inb s1 32 = true then
  hb (hs h (o + 5) s1.toNatClampNeg s0) fun h2 =>
  F_X2_value_b175 N o rc18 x2 x3 x4 x5 h2
  else none
set_option maxRecDepth 20000 in
set_option maxHeartbeats 4000000 in
theorem T_X2_value_b134 {X : CT} (C : CX X 103 cX2_value 8 RX2 (some .int) 1 23) {r0 : Int32} {h0 : PH} {N : Nat} {o : Nat} (ho : ISC o) {rc18 : Int32 → Int32 → Int32 → Int32 → PH → Option (Int32 × PH)} (hr18 : ∀ (x2 : Int32) (x3 : Int32) (x4 : Int32) (x5 : Int32) (h : PH), rc18 x2 x3 x4 x5 h = some (r0, h0) → V X (QI X r0 h0) h 18 [some (.ref o), none, some (.int x2), some (.int x3), some (.int x4), some (.int x5), none, none] []) : ∀ (x2 : Int32) (x3 : Int32) (x4 : Int32) (x5 : Int32) (s0 : Int32) (s1 : Int32) (h : PH), F_X2_value_b134 N o rc18 x2 x3 x4 x5 s0 s1 h = some (r0, h0) → V X (QI X r0 h0) h 134 [some (.ref o), none, some (.int x2), some (.int x3), some (.int x4), some (.int x5), none, none] [.int s0, .int s1, .ref (o + 5)] := by
  intro x2 x3 x4 x5 s0 s1 h hyp
  unfold F_X2_value_b134 at hyp
  obtain ⟨g1, hyp⟩ := gd_n hyp
  obtain ⟨h2, eh2, hyp⟩ := hb_n hyp
  refine V_iast (pc := 134) C dX2_value_134 (akC_5 ho) g1 eh2 ?_
  refine V_goto (pc := 135) C dX2_value_135 (tgt := 175) (by decide) ?_
  refine V_weak (lv' := [some (.ref o), none, some (.int x2), some (.int x3), some (.int x4), some (.int x5), none, none]) (lvle_s (lvle_n (lvle_s (lvle_s (lvle_s (lvle_s (lvle_n (lvle_n lvle_0)))))))) ?_
  exact (T_X2_value_b175 C ho hr18) x2 x3 x4 x5 h2 hyp
def F_X2_value_b181 (N : Nat) (o : Nat) (x3 : Int32) (h : PH) : Option (Int32 × PH) :=
  if x3 = (1 : Int32) then
    if inb (0 : Int32) 32 = true then
    some (h.1 (o + 5) (0 : Int32).toNatClampNeg, h)
    else none
  else
    some ((0 : Int32), h)
set_option maxRecDepth 20000 in
set_option maxHeartbeats 4000000 in
theorem T_X2_value_b181 {X : CT} (C : CX X 103 cX2_value 8 RX2 (some .int) 1 23) {r0 : Int32} {h0 : PH} {N : Nat} {o : Nat} (ho : ISC o) : ∀ (x3 : Int32) (h : PH), F_X2_value_b181 N o x3 h = some (r0, h0) → V X (QI X r0 h0) h 181 [some (.ref o), none, none, some (.int x3), none, none, none, none] [] := by
  intro x3 h hyp
  unfold F_X2_value_b181 at hyp
  refine V_iload_n (pc := 181) C dX2_value_181 rfl ?_
  refine V_iconst (pc := 182) C dX2_value_182 (v := 1) (by decide) ?_
  refine V_icmp_ne (pc := 183) C dX2_value_183 (tgt := 195) (by decide) (fun q1 => ?_) (fun q1 => ?_)
  · replace hyp := (if_neg q1).symm.trans hyp
    refine V_iconst (pc := 195) C dX2_value_195 (v := 0) (by decide) ?_
    cases hyp
    exact V_iret C dX2_value_196
  · replace hyp := (if_pos q1).symm.trans hyp
    refine V_aload_n (pc := 186) C dX2_value_186 rfl ?_
    refine V_getR (pc := 187) C dX2_value_187 lf_X2_24 (fkC_5 ho) ?_
    refine V_iconst (pc := 190) C dX2_value_190 (v := 0) (by decide) ?_
    obtain ⟨g2, hyp⟩ := gd_n hyp
    refine V_iald (pc := 191) C dX2_value_191 (akC_5 ho) g2 ?_
    refine V_goto (pc := 192) C dX2_value_192 (tgt := 196) (by decide) ?_
    cases hyp
    exact V_iret C dX2_value_196
def F_X2_value_b18 (N : Nat) (o : Nat) : Nat → Int32 → Int32 → Int32 → Int32 → PH → Option (Int32 × PH)
  | 0, _, _, _, _, _ => none
  | n + 1, x2, x3, x4, x5, h =>
    if x4 ≤ x5 then
      F_X2_value_b181 N o x3 h
    else
      if inb x5 1000 = true then
      ib ((h.1 (o + 2) x5.toNatClampNeg) &&& (63 : Int32)) fun v3 =>
      ib ((h.1 (o + 2) x5.toNatClampNeg) >>> ((6 : Int32) &&& 31)) fun v4 =>
      if v3 = (2 : Int32) then
        F_X2_value_b68 N o (F_X2_value_b18 N o n) x2 x3 x4 x5 v3 v4 h
      else
        if v3 = (3 : Int32) then
          F_X2_value_b68 N o (F_X2_value_b18 N o n) x2 x3 x4 x5 v3 v4 h
        else
          if v3 = (25 : Int32) then
            F_X2_value_b68 N o (F_X2_value_b18 N o n) x2 x3 x4 x5 v3 v4 h
          else
            if v3 = (18 : Int32) then
              if (1 : Int32) ≤ x3 then
                if inb (x3 - (1 : Int32)) 32 = true then
                if (h.1 (o + 5) (x3 - (1 : Int32)).toNatClampNeg) = 0 then
                  F_X2_value_b134 N o (F_X2_value_b18 N o n) x2 x3 x4 x5 (1 : Int32) (x3 - (1 : Int32)) h
                else
                  F_X2_value_b134 N o (F_X2_value_b18 N o n) x2 x3 x4 x5 (0 : Int32) (x3 - (1 : Int32)) h
                else none
              else
                some ((0 : Int32), h)
            else
              if (2 : Int32) ≤ x3 then
                ib (x3 + (-1 : Int32)) fun v10 =>
                if inb (v10 - (1 : Int32)) 32 = true then
                if inb v10 32 = true then
                bI (F_X2_joined v3 (h.1 (o + 5) (v10 - (1 : Int32)).toNatClampNeg) (h.1 (o + 5) v10.toNatClampNeg) h) fun r13 h14 =>
                hb (hs h14 (o + 5) (v10 - (1 : Int32)).toNatClampNeg r13) fun h15 =>
                F_X2_value_b175 N o (F_X2_value_b18 N o n) x2 v10 x4 x5 h15
                else none
                else none
              else
                some ((0 : Int32), h)
      else none
set_option maxRecDepth 20000 in
set_option maxHeartbeats 4000000 in
theorem T_X2_value_b18 {X : CT} (C : CX X 103 cX2_value 8 RX2 (some .int) 1 23) {r0 : Int32} {h0 : PH} {N : Nat} {o : Nat} (ho : ISC o) : ∀ (n : Nat) (x2 : Int32) (x3 : Int32) (x4 : Int32) (x5 : Int32) (h : PH), F_X2_value_b18 N o n x2 x3 x4 x5 h = some (r0, h0) → V X (QI X r0 h0) h 18 [some (.ref o), none, some (.int x2), some (.int x3), some (.int x4), some (.int x5), none, none] [] := by
  intro n
  induction n with
  | zero =>
    intro x2 x3 x4 x5 h hyp
    cases hyp
  | succ n ih =>
    intro x2 x3 x4 x5 h hyp
    unfold F_X2_value_b18 at hyp
    refine V_iload (pc := 18) C dX2_value_18 rfl ?_
    refine V_iload (pc := 20) C dX2_value_20 rfl ?_
    refine V_icmp_ge (pc := 22) C dX2_value_22 (tgt := 181) (by decide) (fun q1 => ?_) (fun q1 => ?_)
    · replace hyp := (if_pos q1).symm.trans hyp
      refine V_weak (lv' := [some (.ref o), none, none, some (.int x3), none, none, none, none]) (lvle_s (lvle_n (lvle_n (lvle_s (lvle_n (lvle_n (lvle_n (lvle_n lvle_0)))))))) ?_
      exact (T_X2_value_b181 C ho) x3 h hyp
    · replace hyp := (if_neg q1).symm.trans hyp
      refine V_aload_n (pc := 25) C dX2_value_25 rfl ?_
      refine V_getR (pc := 26) C dX2_value_26 lf_X2_15 (fkC_2 ho) ?_
      refine V_iload (pc := 29) C dX2_value_29 rfl ?_
      obtain ⟨g2, hyp⟩ := gd_n hyp
      refine V_iald (pc := 31) C dX2_value_31 (akC_2 ho) g2 ?_
      refine V_bipush (pc := 32) C dX2_value_32 (v := 63) (by decide) ?_
      refine V_iand (pc := 34) C dX2_value_34 ?_
      obtain ⟨v3, ev3, hyp⟩ := ib_n hyp
      refine V_topI ev3 ?_
      refine V_istore (pc := 35) C dX2_value_35 (by decide) rfl ?_
      refine V_aload_n (pc := 37) C dX2_value_37 rfl ?_
      refine V_getR (pc := 38) C dX2_value_38 lf_X2_15 (fkC_2 ho) ?_
      refine V_iload (pc := 41) C dX2_value_41 rfl ?_
      refine V_iald (pc := 43) C dX2_value_43 (akC_2 ho) g2 ?_
      refine V_bipush (pc := 44) C dX2_value_44 (v := 6) (by decide) ?_
      refine V_ishr (pc := 46) C dX2_value_46 ?_
      obtain ⟨v4, ev4, hyp⟩ := ib_n hyp
      refine V_topI ev4 ?_
      refine V_istore (pc := 47) C dX2_value_47 (by decide) rfl ?_
      refine V_iload (pc := 49) C dX2_value_49 rfl ?_
      refine V_iconst (pc := 51) C dX2_value_51 (v := 2) (by decide) ?_
      refine V_icmp_eq (pc := 52) C dX2_value_52 (tgt := 68) (by decide) (fun q5 => ?_) (fun q5 => ?_)
      · replace hyp := (if_pos q5).symm.trans hyp
        refine V_weak (lv' := [some (.ref o), none, some (.int x2), some (.int x3), some (.int x4), some (.int x5), some (.int v3), some (.int v4)]) (lvle_s (lvle_n (lvle_s (lvle_s (lvle_s (lvle_s (lvle_s (lvle_s lvle_0)))))))) ?_
        exact (T_X2_value_b68 C ho ih) x2 x3 x4 x5 v3 v4 h hyp
      · replace hyp := (if_neg q5).symm.trans hyp
        refine V_iload (pc := 55) C dX2_value_55 rfl ?_
        refine V_iconst (pc := 57) C dX2_value_57 (v := 3) (by decide) ?_
        refine V_icmp_eq (pc := 58) C dX2_value_58 (tgt := 68) (by decide) (fun q6 => ?_) (fun q6 => ?_)
        · replace hyp := (if_pos q6).symm.trans hyp
          refine V_weak (lv' := [some (.ref o), none, some (.int x2), some (.int x3), some (.int x4), some (.int x5), some (.int v3), some (.int v4)]) (lvle_s (lvle_n (lvle_s (lvle_s (lvle_s (lvle_s (lvle_s (lvle_s lvle_0)))))))) ?_
          exact (T_X2_value_b68 C ho ih) x2 x3 x4 x5 v3 v4 h hyp
        · replace hyp := (if_neg q6).symm.trans hyp
          refine V_iload (pc := 61) C dX2_value_61 rfl ?_
          refine V_bipush (pc := 63) C dX2_value_63 (v := 25) (by decide) ?_
          refine V_icmp_ne (pc := 65) C dX2_value_65 (tgt := 97) (by decide) (fun q7 => ?_) (fun q7 => ?_)
          · replace hyp := (if_neg q7).symm.trans hyp
            refine V_iload (pc := 97) C dX2_value_97 rfl ?_
            refine V_bipush (pc := 99) C dX2_value_99 (v := 18) (by decide) ?_
            refine V_icmp_ne (pc := 101) C dX2_value_101 (tgt := 138) (by decide) (fun q8 => ?_) (fun q8 => ?_)
            · replace hyp := (if_neg q8).symm.trans hyp
              refine V_iload_n (pc := 138) C dX2_value_138 rfl ?_
              refine V_iconst (pc := 139) C dX2_value_139 (v := 2) (by decide) ?_
              refine V_icmp_ge (pc := 140) C dX2_value_140 (tgt := 145) (by decide) (fun q9 => ?_) (fun q9 => ?_)
              · replace hyp := (if_pos q9).symm.trans hyp
                obtain ⟨v10, ev10, hyp⟩ := ib_n hyp
                refine V_iinc (pc := 145) C dX2_value_145 (v := v10) rfl (by rw [ev10]; rfl) (by decide) rfl ?_
                refine V_aload_n (pc := 148) C dX2_value_148 rfl ?_
                refine V_getR (pc := 149) C dX2_value_149 lf_X2_24 (fkC_5 ho) ?_
                refine V_iload_n (pc := 152) C dX2_value_152 rfl ?_
                refine V_iconst (pc := 153) C dX2_value_153 (v := 1) (by decide) ?_
                refine V_isub (pc := 154) C dX2_value_154 ?_
                refine V_iload (pc := 155) C dX2_value_155 rfl ?_
                refine V_aload_n (pc := 157) C dX2_value_157 rfl ?_
                refine V_getR (pc := 158) C dX2_value_158 lf_X2_24 (fkC_5 ho) ?_
                refine V_iload_n (pc := 161) C dX2_value_161 rfl ?_
                refine V_iconst (pc := 162) C dX2_value_162 (v := 1) (by decide) ?_
                refine V_isub (pc := 163) C dX2_value_163 ?_
                obtain ⟨g11, hyp⟩ := gd_n hyp
                refine V_iald (pc := 164) C dX2_value_164 (akC_5 ho) g11 ?_
                refine V_aload_n (pc := 165) C dX2_value_165 rfl ?_
                refine V_getR (pc := 166) C dX2_value_166 lf_X2_24 (fkC_5 ho) ?_
                refine V_iload_n (pc := 169) C dX2_value_169 rfl ?_
                obtain ⟨g12, hyp⟩ := gd_n hyp
                refine V_iald (pc := 170) C dX2_value_170 (akC_5 ho) g12 ?_
                obtain ⟨r13, h14, eh14, hyp⟩ := bI_n hyp
                refine V_statI (pc := 171) C dX2_value_171 lm_X2_50 ms_X2_joined (M_X2_joined _ eh14) rfl pd_X2_joined (by decide) (by decide) (by decide) (As := [.int v3, .int (h.1 (o + 5) (v10 - (1 : Int32)).toNatClampNeg), .int (h.1 (o + 5) v10.toNatClampNeg)]) (rest := [.int (v10 - (1 : Int32)), .ref (o + 5)]) rfl (Nat.le_of_ble_eq_true rfl) ?_
                obtain ⟨h15, eh15, hyp⟩ := hb_n hyp
                refine V_iast (pc := 174) C dX2_value_174 (akC_5 ho) g11 eh15 ?_
                refine V_weak (lv' := [some (.ref o), none, some (.int x2), some (.int v10), some (.int x4), some (.int x5), none, none]) (lvle_s (lvle_n (lvle_s (lvle_s (lvle_s (lvle_s (lvle_n (lvle_n lvle_0)))))))) ?_
                exact (T_X2_value_b175 C ho ih) x2 v10 x4 x5 h15 hyp
              · replace hyp := (if_neg q9).symm.trans hyp
                refine V_iconst (pc := 143) C dX2_value_143 (v := 0) (by decide) ?_
                cases hyp
                exact V_iret C dX2_value_144
            · replace hyp := (if_pos q8).symm.trans hyp
              refine V_iload_n (pc := 104) C dX2_value_104 rfl ?_
              refine V_iconst (pc := 105) C dX2_value_105 (v := 1) (by decide) ?_
              refine V_icmp_ge (pc := 106) C dX2_value_106 (tgt := 111) (by decide) (fun q16 => ?_) (fun q16 => ?_)
              · replace hyp := (if_pos q16).symm.trans hyp
                refine V_aload_n (pc := 111) C dX2_value_111 rfl ?_
                refine V_getR (pc := 112) C dX2_value_112 lf_X2_24 (fkC_5 ho) ?_
                refine V_iload_n (pc := 115) C dX2_value_115 rfl ?_
                refine V_iconst (pc := 116) C dX2_value_116 (v := 1) (by decide) ?_
                refine V_isub (pc := 117) C dX2_value_117 ?_
                refine V_aload_n (pc := 118) C dX2_value_118 rfl ?_
                refine V_getR (pc := 119) C dX2_value_119 lf_X2_24 (fkC_5 ho) ?_
                refine V_iload_n (pc := 122) C dX2_value_122 rfl ?_
                refine V_iconst (pc := 123) C dX2_value_123 (v := 1) (by decide) ?_
                refine V_isub (pc := 124) C dX2_value_124 ?_
                obtain ⟨g17, hyp⟩ := gd_n hyp
                refine V_iald (pc := 125) C dX2_value_125 (akC_5 ho) g17 ?_
                refine V_if_ne (pc := 126) C dX2_value_126 (tgt := 133) (by decide) (fun q18 => ?_) (fun q18 => ?_)
                · replace hyp := (if_neg q18).symm.trans hyp
                  refine V_iconst (pc := 133) C dX2_value_133 (v := 0) (by decide) ?_
                  refine V_weak (lv' := [some (.ref o), none, some (.int x2), some (.int x3), some (.int x4), some (.int x5), none, none]) (lvle_s (lvle_n (lvle_s (lvle_s (lvle_s (lvle_s (lvle_n (lvle_n lvle_0)))))))) ?_
                  exact (T_X2_value_b134 C ho ih) x2 x3 x4 x5 (0 : Int32) (x3 - (1 : Int32)) h hyp
                · replace hyp := (if_pos q18).symm.trans hyp
                  refine V_iconst (pc := 129) C dX2_value_129 (v := 1) (by decide) ?_
                  refine V_goto (pc := 130) C dX2_value_130 (tgt := 134) (by decide) ?_
                  refine V_weak (lv' := [some (.ref o), none, some (.int x2), some (.int x3), some (.int x4), some (.int x5), none, none]) (lvle_s (lvle_n (lvle_s (lvle_s (lvle_s (lvle_s (lvle_n (lvle_n lvle_0)))))))) ?_
                  exact (T_X2_value_b134 C ho ih) x2 x3 x4 x5 (1 : Int32) (x3 - (1 : Int32)) h hyp
              · replace hyp := (if_neg q16).symm.trans hyp
                refine V_iconst (pc := 109) C dX2_value_109 (v := 0) (by decide) ?_
                cases hyp
                exact V_iret C dX2_value_110
          · replace hyp := (if_pos q7).symm.trans hyp
            refine V_weak (lv' := [some (.ref o), none, some (.int x2), some (.int x3), some (.int x4), some (.int x5), some (.int v3), some (.int v4)]) (lvle_s (lvle_n (lvle_s (lvle_s (lvle_s (lvle_s (lvle_s (lvle_s lvle_0)))))))) ?_
            exact (T_X2_value_b68 C ho ih) x2 x3 x4 x5 v3 v4 h hyp
def F_X2_value (N : Nat) (o : Nat) (a1 : Int32) (a2 : Int32) (h : PH) : Option (Int32 × PH) :=
  if inb a1 25 = true then
  ib (h.1 (o + 4) a1.toNatClampNeg) fun v2 =>
  ib (h.1 (o + 3) a1.toNatClampNeg) fun v3 =>
  F_X2_value_b18 N o N a2 (0 : Int32) v2 v3 h
  else none
set_option maxRecDepth 20000 in
set_option maxHeartbeats 4000000 in
theorem M_X2_value (E : EV) {N : Nat} {o : Nat} {a1 : Int32} {a2 : Int32} (ho : ISC o) {r : Int32} {h h2 : PH} (hyp : F_X2_value N o a1 a2 h = some (r, h2)) : MI E 103 yX2_value cX2_value 8 (some .int) 1 23 [.ref o, .int a1, .int a2] h r h2 := by
  refine MI.of 5 (by decide) rfl (fun X e1 C => ?_)
  subst e1
  replace C : CX X 103 cX2_value 8 RX2 (some .int) 1 23 := C
  show V X _ h 0 [some (.ref o), some (.int a1), some (.int a2), none, none, none, none, none] []
  unfold F_X2_value at hyp
  refine V_iconst (pc := 0) C dX2_value_0 (v := 0) (by decide) ?_
  refine V_istore_n (pc := 1) C dX2_value_1 (by decide) rfl ?_
  refine V_aload_n (pc := 2) C dX2_value_2 rfl ?_
  refine V_getR (pc := 3) C dX2_value_3 lf_X2_21 (fkC_4 ho) ?_
  refine V_iload_n (pc := 6) C dX2_value_6 rfl ?_
  obtain ⟨g1, hyp⟩ := gd_n hyp
  refine V_iald (pc := 7) C dX2_value_7 (akC_4 ho) g1 ?_
  obtain ⟨v2, ev2, hyp⟩ := ib_n hyp
  refine V_topI ev2 ?_
  refine V_istore (pc := 8) C dX2_value_8 (by decide) rfl ?_
  refine V_aload_n (pc := 10) C dX2_value_10 rfl ?_
  refine V_getR (pc := 11) C dX2_value_11 lf_X2_18 (fkC_3 ho) ?_
  refine V_iload_n (pc := 14) C dX2_value_14 rfl ?_
  refine V_iald (pc := 15) C dX2_value_15 (akC_3 ho) g1 ?_
  obtain ⟨v3, ev3, hyp⟩ := ib_n hyp
  refine V_topI ev3 ?_
  refine V_istore (pc := 16) C dX2_value_16 (by decide) rfl ?_
  refine V_weak (lv' := [some (.ref o), none, some (.int a2), some (.int (0 : Int32)), some (.int v2), some (.int v3), none, none]) (lvle_s (lvle_n (lvle_s (lvle_s (lvle_s (lvle_s (lvle_n (lvle_n lvle_0)))))))) ?_
  exact (T_X2_value_b18 C ho) N a2 (0 : Int32) v2 v3 h hyp
