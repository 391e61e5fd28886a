theorem dX7_clear_0 : decode cX7_clear 0 = .ok (.aload_n 0, 1) := by decide +kernel
theorem dX7_clear_1 : decode cX7_clear 1 = .ok (.iconst 0, 1) := by decide +kernel
theorem dX7_clear_2 : decode cX7_clear 2 = .ok (.putfield 21, 3) := by decide +kernel
theorem dX7_clear_5 : decode cX7_clear 5 = .ok (.aload_n 0, 1) := by decide +kernel
theorem dX7_clear_6 : decode cX7_clear 6 = .ok (.iconst 0, 1) := by decide +kernel
theorem dX7_clear_7 : decode cX7_clear 7 = .ok (.putfield 25, 3) := by decide +kernel
theorem dX7_clear_10 : decode cX7_clear 10 = .ok (.aload_n 0, 1) := by decide +kernel
theorem dX7_clear_11 : decode cX7_clear 11 = .ok (.sipush 1000, 3) := by decide +kernel
theorem dX7_clear_14 : decode cX7_clear 14 = .ok (.putfield 28, 3) := by decide +kernel
theorem dX7_clear_17 : decode cX7_clear 17 = .ok (.aload_n 0, 1) := by decide +kernel
theorem dX7_clear_18 : decode cX7_clear 18 = .ok (.iconst 1, 1) := by decide +kernel
theorem dX7_clear_19 : decode cX7_clear 19 = .ok (.putfield 31, 3) := by decide +kernel
theorem dX7_clear_22 : decode cX7_clear 22 = .ok (.return_, 1) := by decide +kernel
def F_X7_clear (h : PH) : Option PH :=
  hb (hs h 99 0 (0 : Int32)) fun h1 =>
  hb (hs h1 99 4 (0 : Int32)) fun h2 =>
  hb (hs h2 99 5 (1000 : Int32)) fun h3 =>
  hb (hs h3 99 6 (1 : Int32)) fun h4 =>
  some h4
set_option maxRecDepth 20000 in
set_option maxHeartbeats 4000000 in
theorem M_X7_clear (E : EV) {h h2 : PH} (hyp : F_X7_clear  h = some h2) : MV E 103 yX7_clear cX7_clear 1 none 0 0 [.ref 99] h h2 := by
  refine MV.of 0 (by decide) rfl (fun X e1 C => ?_)
  subst e1
  replace C : CX X 103 cX7_clear 1 RX7 none 0 0 := C
  show V X _ h 0 [some (.ref 99)] []
  unfold F_X7_clear at hyp
  refine V_aload_n (pc := 0) C dX7_clear_0 rfl ?_
  refine V_iconst (pc := 1) C dX7_clear_1 (v := 0) (by decide) ?_
  obtain ⟨h1, eh1, hyp⟩ := hb_n hyp
  refine V_putI (pc := 2) C dX7_clear_2 lf_X7_21 fk_99_0 rfl rfl eh1 ?_
  refine V_aload_n (pc := 5) C dX7_clear_5 rfl ?_
  refine V_iconst (pc := 6) C dX7_clear_6 (v := 0) (by decide) ?_
  obtain ⟨h2, eh2, hyp⟩ := hb_n hyp
  refine V_putI (pc := 7) C dX7_clear_7 lf_X7_25 fk_99_4 rfl rfl eh2 ?_
  refine V_aload_n (pc := 10) C dX7_clear_10 rfl ?_
  refine V_sipush (pc := 11) C dX7_clear_11 (v := 1000) (by decide) ?_
  obtain ⟨h3, eh3, hyp⟩ := hb_n hyp
  refine V_putI (pc := 14) C dX7_clear_14 lf_X7_28 fk_99_5 rfl rfl eh3 ?_
  refine V_aload_n (pc := 17) C dX7_clear_17 rfl ?_
  refine V_iconst (pc := 18) C dX7_clear_18 (v := 1) (by decide) ?_
  obtain ⟨h4, eh4, hyp⟩ := hb_n hyp
  refine V_putI (pc := 19) C dX7_clear_19 lf_X7_31 fk_99_6 rfl rfl eh4 ?_
  cases hyp
  exact V_vret C dX7_clear_22
theorem dX7_addTrip_0 : decode cX7_addTrip 0 = .ok (.aload_n 0, 1) := by decide +kernel
theorem dX7_addTrip_1 : decode cX7_addTrip 1 = .ok (.getfield 21, 3) := by decide +kernel
theorem dX7_addTrip_4 : decode cX7_addTrip 4 = .ok (.bipush 40, 2) := by decide +kernel
theorem dX7_addTrip_6 : decode cX7_addTrip 6 = .ok (.if_icmp .lt 5, 3) := by decide +kernel
theorem dX7_addTrip_9 : decode cX7_addTrip 9 = .ok (.iconst 0, 1) := by decide +kernel
theorem dX7_addTrip_10 : decode cX7_addTrip 10 = .ok (.ireturn, 1) := by decide +kernel
theorem dX7_addTrip_11 : decode cX7_addTrip 11 = .ok (.aload_n 0, 1) := by decide +kernel
theorem dX7_addTrip_12 : decode cX7_addTrip 12 = .ok (.getfield 9, 3) := by decide +kernel
theorem dX7_addTrip_15 : decode cX7_addTrip 15 = .ok (.aload_n 0, 1) := by decide +kernel
theorem dX7_addTrip_16 : decode cX7_addTrip 16 = .ok (.getfield 21, 3) := by decide +kernel
theorem dX7_addTrip_19 : decode cX7_addTrip 19 = .ok (.iload_n 1, 1) := by decide +kernel
theorem dX7_addTrip_20 : decode cX7_addTrip 20 = .ok (.iload_n 2, 1) := by decide +kernel
theorem dX7_addTrip_21 : decode cX7_addTrip 21 = .ok (.invokestatic 34, 3) := by decide +kernel
theorem dX7_addTrip_24 : decode cX7_addTrip 24 = .ok (.iastore, 1) := by decide +kernel
theorem dX7_addTrip_25 : decode cX7_addTrip 25 = .ok (.aload_n 0, 1) := by decide +kernel
theorem dX7_addTrip_26 : decode cX7_addTrip 26 = .ok (.getfield 15, 3) := by decide +kernel
theorem dX7_addTrip_29 : decode cX7_addTrip 29 = .ok (.aload_n 0, 1) := by decide +kernel
theorem dX7_addTrip_30 : decode cX7_addTrip 30 = .ok (.getfield 21, 3) := by decide +kernel
theorem dX7_addTrip_33 : decode cX7_addTrip 33 = .ok (.iload_n 1, 1) := by decide +kernel
theorem dX7_addTrip_34 : decode cX7_addTrip 34 = .ok (.iload_n 2, 1) := by decide +kernel
theorem dX7_addTrip_35 : decode cX7_addTrip 35 = .ok (.invokestatic 40, 3) := by decide +kernel
theorem dX7_addTrip_38 : decode cX7_addTrip 38 = .ok (.iastore, 1) := by decide +kernel
theorem dX7_addTrip_39 : decode cX7_addTrip 39 = .ok (.aload_n 0, 1) := by decide +kernel
theorem dX7_addTrip_40 : decode cX7_addTrip 40 = .ok (.getfield 18, 3) := by decide +kernel
theorem dX7_addTrip_43 : decode cX7_addTrip 43 = .ok (.aload_n 0, 1) := by decide +kernel
theorem dX7_addTrip_44 : decode cX7_addTrip 44 = .ok (.getfield 21, 3) := by decide +kernel
theorem dX7_addTrip_47 : decode cX7_addTrip 47 = .ok (.iload_n 3, 1) := by decide +kernel
theorem dX7_addTrip_48 : decode cX7_addTrip 48 = .ok (.iastore, 1) := by decide +kernel
theorem dX7_addTrip_49 : decode cX7_addTrip 49 = .ok (.aload_n 0, 1) := by decide +kernel
theorem dX7_addTrip_50 : decode cX7_addTrip 50 = .ok (.dup, 1) := by decide +kernel
theorem dX7_addTrip_51 : decode cX7_addTrip 51 = .ok (.getfield 21, 3) := by decide +kernel
theorem dX7_addTrip_54 : decode cX7_addTrip 54 = .ok (.iconst 1, 1) := by decide +kernel
theorem dX7_addTrip_55 : decode cX7_addTrip 55 = .ok (.iadd, 1) := by decide +kernel
theorem dX7_addTrip_56 : decode cX7_addTrip 56 = .ok (.putfield 21, 3) := by decide +kernel
theorem dX7_addTrip_59 : decode cX7_addTrip 59 = .ok (.iconst 1, 1) := by decide +kernel
theorem dX7_addTrip_60 : decode cX7_addTrip 60 = .ok (.ireturn, 1) := by decide +kernel
def F_X7_addTrip (a1 : Int32) (a2 : Int32) (a3 : Int32) (h : PH) : Option (Int32 × PH) :=
  if (h.1 99 0) < (40 : Int32) then
    if inb (h.1 99 0) 40 = true then
    hb (hs h 100 (h.1 99 0).toNatClampNeg (imin a1 a2)) fun h3 =>
    if inb (h3.1 99 0) 40 = true then
    hb (hs h3 101 (h3.1 99 0).toNatClampNeg (imax a1 a2)) fun h5 =>
    if inb (h5.1 99 0) 40 = true then
    hb (hs h5 102 (h5.1 99 0).toNatClampNeg a3) fun h7 =>
    hb (hs h7 99 0 ((h7.1 99 0) + (1 : Int32))) fun h8 =>
    some ((1 : Int32), h8)
    else none
    else none
    else none
  else
    some ((0 : Int32), h)
set_option maxRecDepth 20000 in
set_option maxHeartbeats 4000000 in
theorem M_X7_addTrip (E : EV) {a1 : Int32} {a2 : Int32} {a3 : Int32} {r : Int32} {h h2 : PH} (hyp : F_X7_addTrip a1 a2 a3 h = some (r, h2)) : MI E 103 yX7_addTrip cX7_addTrip 4 (some .boolean) 1 21 [.ref 99, .int a1, .int a2, .int a3] h r h2 := by
  refine MI.of 0 (by decide) rfl (fun X e1 C => ?_)
  subst e1
  replace C : CX X 103 cX7_addTrip 4 RX7 (some .boolean) 1 21 := C
  show V X _ h 0 [some (.ref 99), some (.int a1), some (.int a2), some (.int a3)] []
  unfold F_X7_addTrip at hyp
  refine V_aload_n (pc := 0) C dX7_addTrip_0 rfl ?_
  refine V_getI (pc := 1) C dX7_addTrip_1 lf_X7_21 fk_99_0 ?_
  refine V_bipush (pc := 4) C dX7_addTrip_4 (v := 40) (by decide) ?_
  refine V_icmp_lt (pc := 6) C dX7_addTrip_6 (tgt := 11) (by decide) (fun q1 => ?_) (fun q1 => ?_)
  · replace hyp := (if_pos q1).symm.trans hyp
    refine V_aload_n (pc := 11) C dX7_addTrip_11 rfl ?_
    refine V_getR (pc := 12) C dX7_addTrip_12 lf_X7_9 fk_99_1 ?_
    refine V_aload_n (pc := 15) C dX7_addTrip_15 rfl ?_
    refine V_getI (pc := 16) C dX7_addTrip_16 lf_X7_21 fk_99_0 ?_
    refine V_iload_n (pc := 19) C dX7_addTrip_19 rfl ?_
    refine V_iload_n (pc := 20) C dX7_addTrip_20 rfl ?_
    refine V_mmin (pc := 21) C dX7_addTrip_21 lm_X7_34 (by decide) (Nat.le_of_ble_eq_true rfl) ?_
    obtain ⟨g2, hyp⟩ := gd_n hyp
    obtain ⟨h3, eh3, hyp⟩ := hb_n hyp
    refine V_iast (pc := 24) C dX7_addTrip_24 ak_100 g2 eh3 ?_
    refine V_aload_n (pc := 25) C dX7_addTrip_25 rfl ?_
    refine V_getR (pc := 26) C dX7_addTrip_26 lf_X7_15 fk_99_2 ?_
    refine V_aload_n (pc := 29) C dX7_addTrip_29 rfl ?_
    refine V_getI (pc := 30) C dX7_addTrip_30 lf_X7_21 fk_99_0 ?_
    refine V_iload_n (pc := 33) C dX7_addTrip_33 rfl ?_
    refine V_iload_n (pc := 34) C dX7_addTrip_34 rfl ?_
    refine V_mmax (pc := 35) C dX7_addTrip_35 lm_X7_40 (by decide) (Nat.le_of_ble_eq_true rfl) ?_
    obtain ⟨g4, hyp⟩ := gd_n hyp
    obtain ⟨h5, eh5, hyp⟩ := hb_n hyp
    refine V_iast (pc := 38) C dX7_addTrip_38 ak_101 g4 eh5 ?_
    refine V_aload_n (pc := 39) C dX7_addTrip_39 rfl ?_
    refine V_getR (pc := 40) C dX7_addTrip_40 lf_X7_18 fk_99_3 ?_
    refine V_aload_n (pc := 43) C dX7_addTrip_43 rfl ?_
    refine V_getI (pc := 44) C dX7_addTrip_44 lf_X7_21 fk_99_0 ?_
    refine V_iload_n (pc := 47) C dX7_addTrip_47 rfl ?_
    obtain ⟨g6, hyp⟩ := gd_n hyp
    obtain ⟨h7, eh7, hyp⟩ := hb_n hyp
    refine V_iast (pc := 48) C dX7_addTrip_48 ak_102 g6 eh7 ?_
    refine V_aload_n (pc := 49) C dX7_addTrip_49 rfl ?_
    refine V_dup (pc := 50) C dX7_addTrip_50 rfl ?_
    refine V_getI (pc := 51) C dX7_addTrip_51 lf_X7_21 fk_99_0 ?_
    refine V_iconst (pc := 54) C dX7_addTrip_54 (v := 1) (by decide) ?_
    refine V_iadd (pc := 55) C dX7_addTrip_55 ?_
    obtain ⟨h8, eh8, hyp⟩ := hb_n hyp
    refine V_putI (pc := 56) C dX7_addTrip_56 lf_X7_21 fk_99_0 rfl rfl eh8 ?_
    refine V_iconst (pc := 59) C dX7_addTrip_59 (v := 1) (by decide) ?_
    cases hyp
    exact V_zret C dX7_addTrip_60 rfl
  · replace hyp := (if_neg q1).symm.trans hyp
    refine V_iconst (pc := 9) C dX7_addTrip_9 (v := 0) (by decide) ?_
    cases hyp
    exact V_zret C dX7_addTrip_10 rfl
theorem dX7_setSlip_0 : decode cX7_setSlip 0 = .ok (.iload_n 1, 1) := by decide +kernel
theorem dX7_setSlip_1 : decode cX7_setSlip 1 = .ok (.ifCond .lt 13, 3) := by decide +kernel
theorem dX7_setSlip_4 : decode cX7_setSlip 4 = .ok (.iload_n 1, 1) := by decide +kernel
theorem dX7_setSlip_5 : decode cX7_setSlip 5 = .ok (.bipush 50, 2) := by decide +kernel
theorem dX7_setSlip_7 : decode cX7_setSlip 7 = .ok (.if_icmp .gt 7, 3) := by decide +kernel
theorem dX7_setSlip_10 : decode cX7_setSlip 10 = .ok (.iconst 1, 1) := by decide +kernel
theorem dX7_setSlip_11 : decode cX7_setSlip 11 = .ok (.goto 4, 3) := by decide +kernel
theorem dX7_setSlip_14 : decode cX7_setSlip 14 = .ok (.iconst 0, 1) := by decide +kernel
theorem dX7_setSlip_15 : decode cX7_setSlip 15 = .ok (.istore_n 2, 1) := by decide +kernel
theorem dX7_setSlip_16 : decode cX7_setSlip 16 = .ok (.aload_n 0, 1) := by decide +kernel
theorem dX7_setSlip_17 : decode cX7_setSlip 17 = .ok (.iload_n 2, 1) := by decide +kernel
theorem dX7_setSlip_18 : decode cX7_setSlip 18 = .ok (.ifCond .eq 7, 3) := by decide +kernel
theorem dX7_setSlip_21 : decode cX7_setSlip 21 = .ok (.iload_n 1, 1) := by decide +kernel
theorem dX7_setSlip_22 : decode cX7_setSlip 22 = .ok (.goto 7, 3) := by decide +kernel
theorem dX7_setSlip_25 : decode cX7_setSlip 25 = .ok (.aload_n 0, 1) := by decide +kernel
theorem dX7_setSlip_26 : decode cX7_setSlip 26 = .ok (.getfield 25, 3) := by decide +kernel
theorem dX7_setSlip_29 : decode cX7_setSlip 29 = .ok (.putfield 25, 3) := by decide +kernel
theorem dX7_setSlip_32 : decode cX7_setSlip 32 = .ok (.iload_n 2, 1) := by decide +kernel
theorem dX7_setSlip_33 : decode cX7_setSlip 33 = .ok (.ireturn, 1) := by decide +kernel
def F_X7_setSlip_b29 (x2 : Int32) (s0 : Int32) (h : PH) : Option (Int32 × PH) :=
  hb (hs h 99 4 s0) fun h1 =>
  if zb x2 = true then
  some (x2, h1)
  else none
set_option maxRecDepth 20000 in
set_option maxHeartbeats 4000000 in
theorem T_X7_setSlip_b29 {X : CT} (C : CX X 103 cX7_setSlip 3 RX7 (some .boolean) 0 0) {r0 : Int32} {h0 : PH} : ∀ (x2 : Int32) (s0 : Int32) (h : PH), F_X7_setSlip_b29 x2 s0 h = some (r0, h0) → V X (QI X r0 h0) h 29 [none, none, some (.int x2)] [.int s0, .ref 99] := by
  intro x2 s0 h hyp
  unfold F_X7_setSlip_b29 at hyp
  obtain ⟨h1, eh1, hyp⟩ := hb_n hyp
  refine V_putI (pc := 29) C dX7_setSlip_29 lf_X7_25 fk_99_4 rfl rfl eh1 ?_
  refine V_iload_n (pc := 32) C dX7_setSlip_32 rfl ?_
  obtain ⟨g2, hyp⟩ := gd_n hyp
  cases hyp
  exact V_zret C dX7_setSlip_33 (zb_n g2).1
def F_X7_setSlip_b15 (x1 : Int32) (s0 : Int32) (h : PH) : Option (Int32 × PH) :=
  if s0 = 0 then
    F_X7_setSlip_b29 s0 (h.1 99 4) h
  else
    F_X7_setSlip_b29 s0 x1 h
set_option maxRecDepth 20000 in
set_option maxHeartbeats 4000000 in
theorem T_X7_setSlip_b15 {X : CT} (C : CX X 103 cX7_setSlip 3 RX7 (some .boolean) 0 0) {r0 : Int32} {h0 : PH} : ∀ (x1 : Int32) (s0 : Int32) (h : PH), F_X7_setSlip_b15 x1 s0 h = some (r0, h0) → V X (QI X r0 h0) h 15 [some (.ref 99), some (.int x1), none] [.int s0] := by
  intro x1 s0 h hyp
  unfold F_X7_setSlip_b15 at hyp
  refine V_istore_n (pc := 15) C dX7_setSlip_15 (by decide) rfl ?_
  refine V_aload_n (pc := 16) C dX7_setSlip_16 rfl ?_
  refine V_iload_n (pc := 17) C dX7_setSlip_17 rfl ?_
  refine V_if_eq (pc := 18) C dX7_setSlip_18 (tgt := 25) (by decide) (fun q1 => ?_) (fun q1 => ?_)
  · replace hyp := (if_pos q1).symm.trans hyp
    refine V_aload_n (pc := 25) C dX7_setSlip_25 rfl ?_
    refine V_getI (pc := 26) C dX7_setSlip_26 lf_X7_25 fk_99_4 ?_
    refine V_weak (lv' := [none, none, some (.int s0)]) (lvle_n (lvle_n (lvle_s lvle_0))) ?_
    exact (T_X7_setSlip_b29 C) s0 (h.1 99 4) h hyp
  · replace hyp := (if_neg q1).symm.trans hyp
    refine V_iload_n (pc := 21) C dX7_setSlip_21 rfl ?_
    refine V_goto (pc := 22) C dX7_setSlip_22 (tgt := 29) (by decide) ?_
    refine V_weak (lv' := [none, none, some (.int s0)]) (lvle_n (lvle_n (lvle_s lvle_0))) ?_
    exact (T_X7_setSlip_b29 C) s0 x1 h hyp
def F_X7_setSlip_b14 (x1 : Int32) (h : PH) : Option (Int32 × PH) :=
  F_X7_setSlip_b15 x1 (0 : Int32) h
set_option maxRecDepth 20000 in
set_option maxHeartbeats 4000000 in
theorem T_X7_setSlip_b14 {X : CT} (C : CX X 103 cX7_setSlip 3 RX7 (some .boolean) 0 0) {r0 : Int32} {h0 : PH} : ∀ (x1 : Int32) (h : PH), F_X7_setSlip_b14 x1 h = some (r0, h0) → V X (QI X r0 h0) h 14 [some (.ref 99), some (.int x1), none] [] := by
  intro x1 h hyp
  unfold F_X7_setSlip_b14 at hyp
  refine V_iconst (pc := 14) C dX7_setSlip_14 (v := 0) (by decide) ?_
  refine V_weak (lv' := [some (.ref 99), some (.int x1), none]) (lvle_s (lvle_s (lvle_n lvle_0))) ?_
  exact (T_X7_setSlip_b15 C) x1 (0 : Int32) h hyp
def F_X7_setSlip (a1 : Int32) (h : PH) : Option (Int32 × PH) :=
  if a1 < 0 then
    F_X7_setSlip_b14 a1 h
  else
    if (50 : Int32) < a1 then
      F_X7_setSlip_b14 a1 h
    else
      F_X7_setSlip_b15 a1 (1 : Int32) h
set_option maxRecDepth 20000 in
set_option maxHeartbeats 4000000 in
theorem M_X7_setSlip (E : EV) {a1 : Int32} {r : Int32} {h h2 : PH} (hyp : F_X7_setSlip a1 h = some (r, h2)) : MI E 103 yX7_setSlip cX7_setSlip 3 (some .boolean) 0 0 [.ref 99, .int a1] h r h2 := by
  refine MI.of 1 (by decide) rfl (fun X e1 C => ?_)
  subst e1
  replace C : CX X 103 cX7_setSlip 3 RX7 (some .boolean) 0 0 := C
  show V X _ h 0 [some (.ref 99), some (.int a1), none] []
  unfold F_X7_setSlip at hyp
  refine V_iload_n (pc := 0) C dX7_setSlip_0 rfl ?_
  refine V_if_lt (pc := 1) C dX7_setSlip_1 (tgt := 14) (by decide) (fun q1 => ?_) (fun q1 => ?_)
  · replace hyp := (if_pos q1).symm.trans hyp
    refine V_weak (lv' := [some (.ref 99), some (.int a1), none]) (lvle_s (lvle_s (lvle_n lvle_0))) ?_
    exact (T_X7_setSlip_b14 C) a1 h hyp
  · replace hyp := (if_neg q1).symm.trans hyp
    refine V_iload_n (pc := 4) C dX7_setSlip_4 rfl ?_
    refine V_bipush (pc := 5) C dX7_setSlip_5 (v := 50) (by decide) ?_
    refine V_icmp_gt (pc := 7) C dX7_setSlip_7 (tgt := 14) (by decide) (fun q2 => ?_) (fun q2 => ?_)
    · replace hyp := (if_pos q2).symm.trans hyp
      refine V_weak (lv' := [some (.ref 99), some (.int a1), none]) (lvle_s (lvle_s (lvle_n lvle_0))) ?_
      exact (T_X7_setSlip_b14 C) a1 h hyp
    · replace hyp := (if_neg q2).symm.trans hyp
      refine V_iconst (pc := 10) C dX7_setSlip_10 (v := 1) (by decide) ?_
      refine V_goto (pc := 11) C dX7_setSlip_11 (tgt := 15) (by decide) ?_
      refine V_weak (lv' := [some (.ref 99), some (.int a1), none]) (lvle_s (lvle_s (lvle_n lvle_0))) ?_
      exact (T_X7_setSlip_b15 C) a1 (1 : Int32) h hyp
theorem dX7_setLife_0 : decode cX7_setLife 0 = .ok (.iload_n 1, 1) := by decide +kernel
theorem dX7_setLife_1 : decode cX7_setLife 1 = .ok (.iconst 1, 1) := by decide +kernel
theorem dX7_setLife_2 : decode cX7_setLife 2 = .ok (.if_icmp .lt 13, 3) := by decide +kernel
theorem dX7_setLife_5 : decode cX7_setLife 5 = .ok (.iload_n 1, 1) := by decide +kernel
theorem dX7_setLife_6 : decode cX7_setLife 6 = .ok (.ldc 43, 2) := by decide +kernel
theorem dX7_setLife_8 : decode cX7_setLife 8 = .ok (.if_icmp .gt 7, 3) := by decide +kernel
theorem dX7_setLife_11 : decode cX7_setLife 11 = .ok (.iconst 1, 1) := by decide +kernel
theorem dX7_setLife_12 : decode cX7_setLife 12 = .ok (.goto 4, 3) := by decide +kernel
theorem dX7_setLife_15 : decode cX7_setLife 15 = .ok (.iconst 0, 1) := by decide +kernel
theorem dX7_setLife_16 : decode cX7_setLife 16 = .ok (.istore_n 2, 1) := by decide +kernel
theorem dX7_setLife_17 : decode cX7_setLife 17 = .ok (.aload_n 0, 1) := by decide +kernel
theorem dX7_setLife_18 : decode cX7_setLife 18 = .ok (.iload_n 2, 1) := by decide +kernel
theorem dX7_setLife_19 : decode cX7_setLife 19 = .ok (.ifCond .eq 7, 3) := by decide +kernel
theorem dX7_setLife_22 : decode cX7_setLife 22 = .ok (.iload_n 1, 1) := by decide +kernel
theorem dX7_setLife_23 : decode cX7_setLife 23 = .ok (.goto 7, 3) := by decide +kernel
theorem dX7_setLife_26 : decode cX7_setLife 26 = .ok (.aload_n 0, 1) := by decide +kernel
theorem dX7_setLife_27 : decode cX7_setLife 27 = .ok (.getfield 28, 3) := by decide +kernel
theorem dX7_setLife_30 : decode cX7_setLife 30 = .ok (.putfield 28, 3) := by decide +kernel
theorem dX7_setLife_33 : decode cX7_setLife 33 = .ok (.iload_n 2, 1) := by decide +kernel
theorem dX7_setLife_34 : decode cX7_setLife 34 = .ok (.ireturn, 1) := by decide +kernel
def F_X7_setLife_b30 (x2 : Int32) (s0 : Int32) (h : PH) : Option (Int32 × PH) :=
  hb (hs h 99 5 s0) fun h1 =>
  if zb x2 = true then
  some (x2, h1)
  else none
set_option maxRecDepth 20000 in
set_option maxHeartbeats 4000000 in
theorem T_X7_setLife_b30 {X : CT} (C : CX X 103 cX7_setLife 3 RX7 (some .boolean) 0 0) {r0 : Int32} {h0 : PH} : ∀ (x2 : Int32) (s0 : Int32) (h : PH), F_X7_setLife_b30 x2 s0 h = some (r0, h0) → V X (QI X r0 h0) h 30 [none, none, some (.int x2)] [.int s0, .ref 99] := by
  intro x2 s0 h hyp
  unfold F_X7_setLife_b30 at hyp
  obtain ⟨h1, eh1, hyp⟩ := hb_n hyp
  refine V_putI (pc := 30) C dX7_setLife_30 lf_X7_28 fk_99_5 rfl rfl eh1 ?_
  refine V_iload_n (pc := 33) C dX7_setLife_33 rfl ?_
  obtain ⟨g2, hyp⟩ := gd_n hyp
  cases hyp
  exact V_zret C dX7_setLife_34 (zb_n g2).1
def F_X7_setLife_b16 (x1 : Int32) (s0 : Int32) (h : PH) : Option (Int32 × PH) :=
  if s0 = 0 then
    F_X7_setLife_b30 s0 (h.1 99 5) h
  else
    F_X7_setLife_b30 s0 x1 h
set_option maxRecDepth 20000 in
set_option maxHeartbeats 4000000 in
theorem T_X7_setLife_b16 {X : CT} (C : CX X 103 cX7_setLife 3 RX7 (some .boolean) 0 0) {r0 : Int32} {h0 : PH} : ∀ (x1 : Int32) (s0 : Int32) (h : PH), F_X7_setLife_b16 x1 s0 h = some (r0, h0) → V X (QI X r0 h0) h 16 [some (.ref 99), some (.int x1), none] [.int s0] := by
  intro x1 s0 h hyp
  unfold F_X7_setLife_b16 at hyp
  refine V_istore_n (pc := 16) C dX7_setLife_16 (by decide) rfl ?_
  refine V_aload_n (pc := 17) C dX7_setLife_17 rfl ?_
  refine V_iload_n (pc := 18) C dX7_setLife_18 rfl ?_
  refine V_if_eq (pc := 19) C dX7_setLife_19 (tgt := 26) (by decide) (fun q1 => ?_) (fun q1 => ?_)
  · replace hyp := (if_pos q1).symm.trans hyp
    refine V_aload_n (pc := 26) C dX7_setLife_26 rfl ?_
    refine V_getI (pc := 27) C dX7_setLife_27 lf_X7_28 fk_99_5 ?_
    refine V_weak (lv' := [none, none, some (.int s0)]) (lvle_n (lvle_n (lvle_s lvle_0))) ?_
    exact (T_X7_setLife_b30 C) s0 (h.1 99 5) h hyp
  · replace hyp := (if_neg q1).symm.trans hyp
    refine V_iload_n (pc := 22) C dX7_setLife_22 rfl ?_
    refine V_goto (pc := 23) C dX7_setLife_23 (tgt := 30) (by decide) ?_
    refine V_weak (lv' := [none, none, some (.int s0)]) (lvle_n (lvle_n (lvle_s lvle_0))) ?_
    exact (T_X7_setLife_b30 C) s0 x1 h hyp
def F_X7_setLife_b15 (x1 : Int32) (h : PH) : Option (Int32 × PH) :=
  F_X7_setLife_b16 x1 (0 : Int32) h
set_option maxRecDepth 20000 in
set_option maxHeartbeats 4000000 in
theorem T_X7_setLife_b15 {X : CT} (C : CX X 103 cX7_setLife 3 RX7 (some .boolean) 0 0) {r0 : Int32} {h0 : PH} : ∀ (x1 : Int32) (h : PH), F_X7_setLife_b15 x1 h = some (r0, h0) → V X (QI X r0 h0) h 15 [some (.ref 99), some (.int x1), none] [] := by
  intro x1 h hyp
  unfold F_X7_setLife_b15 at hyp
  refine V_iconst (pc := 15) C dX7_setLife_15 (v := 0) (by decide) ?_
  refine V_weak (lv' := [some (.ref 99), some (.int x1), none]) (lvle_s (lvle_s (lvle_n lvle_0))) ?_
  exact (T_X7_setLife_b16 C) x1 (0 : Int32) h hyp
def F_X7_setLife (a1 : Int32) (h : PH) : Option (Int32 × PH) :=
  if a1 < (1 : Int32) then
    F_X7_setLife_b15 a1 h
  else
    if (999999 : Int32) < a1 then
      F_X7_setLife_b15 a1 h
    else
      F_X7_setLife_b16 a1 (1 : Int32) h
set_option maxRecDepth 20000 in
set_option maxHeartbeats 4000000 in
theorem M_X7_setLife (E : EV) {a1 : Int32} {r : Int32} {h h2 : PH} (hyp : F_X7_setLife a1 h = some (r, h2)) : MI E 103 yX7_setLife cX7_setLife 3 (some .boolean) 0 0 [.ref 99, .int a1] h r h2 := by
  refine MI.of 1 (by decide) rfl (fun X e1 C => ?_)
  subst e1
  replace C : CX X 103 cX7_setLife 3 RX7 (some .boolean) 0 0 := C
  show V X _ h 0 [some (.ref 99), some (.int a1), none] []
  unfold F_X7_setLife at hyp
  refine V_iload_n (pc := 0) C dX7_setLife_0 rfl ?_
  refine V_iconst (pc := 1) C dX7_setLife_1 (v := 1) (by decide) ?_
  refine V_icmp_lt (pc := 2) C dX7_setLife_2 (tgt := 15) (by decide) (fun q1 => ?_) (fun q1 => ?_)
  · replace hyp := (if_pos q1).symm.trans hyp
    refine V_weak (lv' := [some (.ref 99), some (.int a1), none]) (lvle_s (lvle_s (lvle_n lvle_0))) ?_
    exact (T_X7_setLife_b15 C) a1 h hyp
  · replace hyp := (if_neg q1).symm.trans hyp
    refine V_iload_n (pc := 5) C dX7_setLife_5 rfl ?_
    refine V_ldc (pc := 6) C dX7_setLife_6 lc_X7_43 ?_
    refine V_icmp_gt (pc := 8) C dX7_setLife_8 (tgt := 15) (by decide) (fun q2 => ?_) (fun q2 => ?_)
    · replace hyp := (if_pos q2).symm.trans hyp
      refine V_weak (lv' := [some (.ref 99), some (.int a1), none]) (lvle_s (lvle_s (lvle_n lvle_0))) ?_
      exact (T_X7_setLife_b15 C) a1 h hyp
    · replace hyp := (if_neg q2).symm.trans hyp
      refine V_iconst (pc := 11) C dX7_setLife_11 (v := 1) (by decide) ?_
      refine V_goto (pc := 12) C dX7_setLife_12 (tgt := 16) (by decide) ?_
      refine V_weak (lv' := [some (.ref 99), some (.int a1), none]) (lvle_s (lvle_s (lvle_n lvle_0))) ?_
      exact (T_X7_setLife_b16 C) a1 (1 : Int32) h hyp
theorem dX7_setDays_0 : decode cX7_setDays 0 = .ok (.iload_n 1, 1) := by decide +kernel
theorem dX7_setDays_1 : decode cX7_setDays 1 = .ok (.iconst 1, 1) := by decide +kernel
theorem dX7_setDays_2 : decode cX7_setDays 2 = .ok (.if_icmp .lt 14, 3) := by decide +kernel
theorem dX7_setDays_5 : decode cX7_setDays 5 = .ok (.iload_n 1, 1) := by decide +kernel
theorem dX7_setDays_6 : decode cX7_setDays 6 = .ok (.sipush 9999, 3) := by decide +kernel
theorem dX7_setDays_9 : decode cX7_setDays 9 = .ok (.if_icmp .gt 7, 3) := by decide +kernel
theorem dX7_setDays_12 : decode cX7_setDays 12 = .ok (.iconst 1, 1) := by decide +kernel
theorem dX7_setDays_13 : decode cX7_setDays 13 = .ok (.goto 4, 3) := by decide +kernel
theorem dX7_setDays_16 : decode cX7_setDays 16 = .ok (.iconst 0, 1) := by decide +kernel
theorem dX7_setDays_17 : decode cX7_setDays 17 = .ok (.istore_n 2, 1) := by decide +kernel
theorem dX7_setDays_18 : decode cX7_setDays 18 = .ok (.aload_n 0, 1) := by decide +kernel
theorem dX7_setDays_19 : decode cX7_setDays 19 = .ok (.iload_n 2, 1) := by decide +kernel
theorem dX7_setDays_20 : decode cX7_setDays 20 = .ok (.ifCond .eq 7, 3) := by decide +kernel
theorem dX7_setDays_23 : decode cX7_setDays 23 = .ok (.iload_n 1, 1) := by decide +kernel
theorem dX7_setDays_24 : decode cX7_setDays 24 = .ok (.goto 7, 3) := by decide +kernel
theorem dX7_setDays_27 : decode cX7_setDays 27 = .ok (.aload_n 0, 1) := by decide +kernel
theorem dX7_setDays_28 : decode cX7_setDays 28 = .ok (.getfield 31, 3) := by decide +kernel
theorem dX7_setDays_31 : decode cX7_setDays 31 = .ok (.putfield 31, 3) := by decide +kernel
theorem dX7_setDays_34 : decode cX7_setDays 34 = .ok (.iload_n 2, 1) := by decide +kernel
theorem dX7_setDays_35 : decode cX7_setDays 35 = .ok (.ireturn, 1) := by decide +kernel
def F_X7_setDays_b31 (x2 : Int32) (s0 : Int32) (h : PH) : Option (Int32 × PH) :=
  hb (hs h 99 6 s0) fun h1 =>
  if zb x2 = true then
  some (x2, h1)
  else none
set_option maxRecDepth 20000 in
set_option maxHeartbeats 4000000 in
theorem T_X7_setDays_b31 {X : CT} (C : CX X 103 cX7_setDays 3 RX7 (some .boolean) 0 0) {r0 : Int32} {h0 : PH} : ∀ (x2 : Int32) (s0 : Int32) (h : PH), F_X7_setDays_b31 x2 s0 h = some (r0, h0) → V X (QI X r0 h0) h 31 [none, none, some (.int x2)] [.int s0, .ref 99] := by
  intro x2 s0 h hyp
  unfold F_X7_setDays_b31 at hyp
  obtain ⟨h1, eh1, hyp⟩ := hb_n hyp
  refine V_putI (pc := 31) C dX7_setDays_31 lf_X7_31 fk_99_6 rfl rfl eh1 ?_
  refine V_iload_n (pc := 34) C dX7_setDays_34 rfl ?_
  obtain ⟨g2, hyp⟩ := gd_n hyp
  cases hyp
  exact V_zret C dX7_setDays_35 (zb_n g2).1
def F_X7_setDays_b17 (x1 : Int32) (s0 : Int32) (h : PH) : Option (Int32 × PH) :=
  if s0 = 0 then
    F_X7_setDays_b31 s0 (h.1 99 6) h
  else
    F_X7_setDays_b31 s0 x1 h
set_option maxRecDepth 20000 in
set_option maxHeartbeats 4000000 in
theorem T_X7_setDays_b17 {X : CT} (C : CX X 103 cX7_setDays 3 RX7 (some .boolean) 0 0) {r0 : Int32} {h0 : PH} : ∀ (x1 : Int32) (s0 : Int32) (h : PH), F_X7_setDays_b17 x1 s0 h = some (r0, h0) → V X (QI X r0 h0) h 17 [some (.ref 99), some (.int x1), none] [.int s0] := by
  intro x1 s0 h hyp
  unfold F_X7_setDays_b17 at hyp
  refine V_istore_n (pc := 17) C dX7_setDays_17 (by decide) rfl ?_
  refine V_aload_n (pc := 18) C dX7_setDays_18 rfl ?_
  refine V_iload_n (pc := 19) C dX7_setDays_19 rfl ?_
  refine V_if_eq (pc := 20) C dX7_setDays_20 (tgt := 27) (by decide) (fun q1 => ?_) (fun q1 => ?_)
  · replace hyp := (if_pos q1).symm.trans hyp
    refine V_aload_n (pc := 27) C dX7_setDays_27 rfl ?_
    refine V_getI (pc := 28) C dX7_setDays_28 lf_X7_31 fk_99_6 ?_
    refine V_weak (lv' := [none, none, some (.int s0)]) (lvle_n (lvle_n (lvle_s lvle_0))) ?_
    exact (T_X7_setDays_b31 C) s0 (h.1 99 6) h hyp
  · replace hyp := (if_neg q1).symm.trans hyp
    refine V_iload_n (pc := 23) C dX7_setDays_23 rfl ?_
    refine V_goto (pc := 24) C dX7_setDays_24 (tgt := 31) (by decide) ?_
    refine V_weak (lv' := [none, none, some (.int s0)]) (lvle_n (lvle_n (lvle_s lvle_0))) ?_
    exact (T_X7_setDays_b31 C) s0 x1 h hyp
def F_X7_setDays_b16 (x1 : Int32) (h : PH) : Option (Int32 × PH) :=
  F_X7_setDays_b17 x1 (0 : Int32) h
set_option maxRecDepth 20000 in
set_option maxHeartbeats 4000000 in
theorem T_X7_setDays_b16 {X : CT} (C : CX X 103 cX7_setDays 3 RX7 (some .boolean) 0 0) {r0 : Int32} {h0 : PH} : ∀ (x1 : Int32) (h : PH), F_X7_setDays_b16 x1 h = some (r0, h0) → V X (QI X r0 h0) h 16 [some (.ref 99), some (.int x1), none] [] := by
  intro x1 h hyp
  unfold F_X7_setDays_b16 at hyp
  refine V_iconst (pc := 16) C dX7_setDays_16 (v := 0) (by decide) ?_
  refine V_weak (lv' := [some (.ref 99), some (.int x1), none]) (lvle_s (lvle_s (lvle_n lvle_0))) ?_
  exact (T_X7_setDays_b17 C) x1 (0 : Int32) h hyp
def F_X7_setDays (a1 : Int32) (h : PH) : Option (Int32 × PH) :=
  if a1 < (1 : Int32) then
    F_X7_setDays_b16 a1 h
  else
    if (9999 : Int32) < a1 then
      F_X7_setDays_b16 a1 h
    else
      F_X7_setDays_b17 a1 (1 : Int32) h
set_option maxRecDepth 20000 in
set_option maxHeartbeats 4000000 in
theorem M_X7_setDays (E : EV) {a1 : Int32} {r : Int32} {h h2 : PH} (hyp : F_X7_setDays a1 h = some (r, h2)) : MI E 103 yX7_setDays cX7_setDays 3 (some .boolean) 0 0 [.ref 99, .int a1] h r h2 := by
  refine MI.of 1 (by decide) rfl (fun X e1 C => ?_)
  subst e1
  replace C : CX X 103 cX7_setDays 3 RX7 (some .boolean) 0 0 := C
  show V X _ h 0 [some (.ref 99), some (.int a1), none] []
  unfold F_X7_setDays at hyp
  refine V_iload_n (pc := 0) C dX7_setDays_0 rfl ?_
  refine V_iconst (pc := 1) C dX7_setDays_1 (v := 1) (by decide) ?_
  refine V_icmp_lt (pc := 2) C dX7_setDays_2 (tgt := 16) (by decide) (fun q1 => ?_) (fun q1 => ?_)
  · replace hyp := (if_pos q1).symm.trans hyp
    refine V_weak (lv' := [some (.ref 99), some (.int a1), none]) (lvle_s (lvle_s (lvle_n lvle_0))) ?_
    exact (T_X7_setDays_b16 C) a1 h hyp
  · replace hyp := (if_neg q1).symm.trans hyp
    refine V_iload_n (pc := 5) C dX7_setDays_5 rfl ?_
    refine V_sipush (pc := 6) C dX7_setDays_6 (v := 9999) (by decide) ?_
    refine V_icmp_gt (pc := 9) C dX7_setDays_9 (tgt := 16) (by decide) (fun q2 => ?_) (fun q2 => ?_)
    · replace hyp := (if_pos q2).symm.trans hyp
      refine V_weak (lv' := [some (.ref 99), some (.int a1), none]) (lvle_s (lvle_s (lvle_n lvle_0))) ?_
      exact (T_X7_setDays_b16 C) a1 h hyp
    · replace hyp := (if_neg q2).symm.trans hyp
      refine V_iconst (pc := 12) C dX7_setDays_12 (v := 1) (by decide) ?_
      refine V_goto (pc := 13) C dX7_setDays_13 (tgt := 17) (by decide) ?_
      refine V_weak (lv' := [some (.ref 99), some (.int a1), none]) (lvle_s (lvle_s (lvle_n lvle_0))) ?_
      exact (T_X7_setDays_b17 C) a1 (1 : Int32) h hyp
theorem dX7_passes_0 : decode cX7_passes 0 = .ok (.aload_n 0, 1) := by decide +kernel
theorem dX7_passes_1 : decode cX7_passes 1 = .ok (.getfield 9, 3) := by decide +kernel
theorem dX7_passes_4 : decode cX7_passes 4 = .ok (.iload_n 1, 1) := by decide +kernel
theorem dX7_passes_5 : decode cX7_passes 5 = .ok (.iaload, 1) := by decide +kernel
theorem dX7_passes_6 : decode cX7_passes 6 = .ok (.iload_n 2, 1) := by decide +kernel
theorem dX7_passes_7 : decode cX7_passes 7 = .ok (.if_icmp .gt 17, 3) := by decide +kernel
theorem dX7_passes_10 : decode cX7_passes 10 = .ok (.iload_n 2, 1) := by decide +kernel
theorem dX7_passes_11 : decode cX7_passes 11 = .ok (.aload_n 0, 1) := by decide +kernel
theorem dX7_passes_12 : decode cX7_passes 12 = .ok (.getfield 15, 3) := by decide +kernel
theorem dX7_passes_15 : decode cX7_passes 15 = .ok (.iload_n 1, 1) := by decide +kernel
theorem dX7_passes_16 : decode cX7_passes 16 = .ok (.iaload, 1) := by decide +kernel
theorem dX7_passes_17 : decode cX7_passes 17 = .ok (.if_icmp .ge 7, 3) := by decide +kernel
theorem dX7_passes_20 : decode cX7_passes 20 = .ok (.iconst 1, 1) := by decide +kernel
theorem dX7_passes_21 : decode cX7_passes 21 = .ok (.goto 4, 3) := by decide +kernel
theorem dX7_passes_24 : decode cX7_passes 24 = .ok (.iconst 0, 1) := by decide +kernel
theorem dX7_passes_25 : decode cX7_passes 25 = .ok (.ireturn, 1) := by decide +kernel
def F_X7_passes_b24 (h : PH) : Option (Int32 × PH) :=
  some ((0 : Int32), h)
set_option maxRecDepth 20000 in
set_option maxHeartbeats 4000000 in
theorem T_X7_passes_b24 {X : CT} (C : CX X 103 cX7_passes 3 RX7 (some .boolean) 0 0) {r0 : Int32} {h0 : PH} : ∀ (h : PH), F_X7_passes_b24  h = some (r0, h0) → V X (QI X r0 h0) h 24 [none, none, none] [] := by
  intro  h hyp
  unfold F_X7_passes_b24 at hyp
  refine V_iconst (pc := 24) C dX7_passes_24 (v := 0) (by decide) ?_
  cases hyp
  exact V_zret C dX7_passes_25 rfl
def F_X7_passes (a1 : Int32) (a2 : Int32) (h : PH) : Option (Int32 × PH) :=
  if inb a1 40 = true then
  if a2 < (h.1 100 a1.toNatClampNeg) then
    F_X7_passes_b24  h
  else
    if inb a1 40 = true then
    if (h.1 101 a1.toNatClampNeg) ≤ a2 then
      F_X7_passes_b24  h
    else
      some ((1 : Int32), h)
    else none
  else none
set_option maxRecDepth 20000 in
set_option maxHeartbeats 4000000 in
theorem M_X7_passes (E : EV) {a1 : Int32} {a2 : Int32} {r : Int32} {h h2 : PH} (hyp : F_X7_passes a1 a2 h = some (r, h2)) : MI E 103 yX7_passes cX7_passes 3 (some .boolean) 0 0 [.ref 99, .int a1, .int a2] h r h2 := by
  refine MI.of 0 (by decide) rfl (fun X e1 C => ?_)
  subst e1
  replace C : CX X 103 cX7_passes 3 RX7 (some .boolean) 0 0 := C
  show V X _ h 0 [some (.ref 99), some (.int a1), some (.int a2)] []
  unfold F_X7_passes at hyp
  refine V_aload_n (pc := 0) C dX7_passes_0 rfl ?_
  refine V_getR (pc := 1) C dX7_passes_1 lf_X7_9 fk_99_1 ?_
  refine V_iload_n (pc := 4) C dX7_passes_4 rfl ?_
  obtain ⟨g1, hyp⟩ := gd_n hyp
  refine V_iald (pc := 5) C dX7_passes_5 ak_100 g1 ?_
  refine V_iload_n (pc := 6) C dX7_passes_6 rfl ?_
  refine V_icmp_gt (pc := 7) C dX7_passes_7 (tgt := 24) (by decide) (fun q2 => ?_) (fun q2 => ?_)
  · replace hyp := (if_pos q2).symm.trans hyp
    refine V_weak (lv' := [none, none, none]) (lvle_n (lvle_n (lvle_n lvle_0))) ?_
    exact (T_X7_passes_b24 C) h hyp
  · replace hyp := (if_neg q2).symm.trans hyp
    refine V_iload_n (pc := 10) C dX7_passes_10 rfl ?_
    refine V_aload_n (pc := 11) C dX7_passes_11 rfl ?_
    refine V_getR (pc := 12) C dX7_passes_12 lf_X7_15 fk_99_2 ?_
    refine V_iload_n (pc := 15) C dX7_passes_15 rfl ?_
    obtain ⟨g3, hyp⟩ := gd_n hyp
    refine V_iald (pc := 16) C dX7_passes_16 ak_101 g3 ?_
    refine V_icmp_ge (pc := 17) C dX7_passes_17 (tgt := 24) (by decide) (fun q4 => ?_) (fun q4 => ?_)
    · replace hyp := (if_pos q4).symm.trans hyp
      refine V_weak (lv' := [none, none, none]) (lvle_n (lvle_n (lvle_n lvle_0))) ?_
      exact (T_X7_passes_b24 C) h hyp
    · replace hyp := (if_neg q4).symm.trans hyp
      refine V_iconst (pc := 20) C dX7_passes_20 (v := 1) (by decide) ?_
      refine V_goto (pc := 21) C dX7_passes_21 (tgt := 25) (by decide) ?_
      cases hyp
      exact V_zret C dX7_passes_25 rfl
theorem dX7_trueNumber_0 : decode cX7_trueNumber 0 = .ok (.aload_n 0, 1) := by decide +kernel
theorem dX7_trueNumber_1 : decode cX7_trueNumber 1 = .ok (.getfield 18, 3) := by decide +kernel
theorem dX7_trueNumber_4 : decode cX7_trueNumber 4 = .ok (.iload_n 1, 1) := by decide +kernel
theorem dX7_trueNumber_5 : decode cX7_trueNumber 5 = .ok (.iaload, 1) := by decide +kernel
theorem dX7_trueNumber_6 : decode cX7_trueNumber 6 = .ok (.aload_n 0, 1) := by decide +kernel
theorem dX7_trueNumber_7 : decode cX7_trueNumber 7 = .ok (.getfield 25, 3) := by decide +kernel
theorem dX7_trueNumber_10 : decode cX7_trueNumber 10 = .ok (.imul, 1) := by decide +kernel
theorem dX7_trueNumber_11 : decode cX7_trueNumber 11 = .ok (.bipush 100, 2) := by decide +kernel
theorem dX7_trueNumber_13 : decode cX7_trueNumber 13 = .ok (.idiv, 1) := by decide +kernel
theorem dX7_trueNumber_14 : decode cX7_trueNumber 14 = .ok (.istore_n 3, 1) := by decide +kernel
theorem dX7_trueNumber_15 : decode cX7_trueNumber 15 = .ok (.iload_n 2, 1) := by decide +kernel
theorem dX7_trueNumber_16 : decode cX7_trueNumber 16 = .ok (.ifCond .eq 14, 3) := by decide +kernel
theorem dX7_trueNumber_19 : decode cX7_trueNumber 19 = .ok (.aload_n 0, 1) := by decide +kernel
theorem dX7_trueNumber_20 : decode cX7_trueNumber 20 = .ok (.getfield 18, 3) := by decide +kernel
theorem dX7_trueNumber_23 : decode cX7_trueNumber 23 = .ok (.iload_n 1, 1) := by decide +kernel
theorem dX7_trueNumber_24 : decode cX7_trueNumber 24 = .ok (.iaload, 1) := by decide +kernel
theorem dX7_trueNumber_25 : decode cX7_trueNumber 25 = .ok (.iload_n 3, 1) := by decide +kernel
theorem dX7_trueNumber_26 : decode cX7_trueNumber 26 = .ok (.iadd, 1) := by decide +kernel
theorem dX7_trueNumber_27 : decode cX7_trueNumber 27 = .ok (.goto 11, 3) := by decide +kernel
theorem dX7_trueNumber_30 : decode cX7_trueNumber 30 = .ok (.aload_n 0, 1) := by decide +kernel
theorem dX7_trueNumber_31 : decode cX7_trueNumber 31 = .ok (.getfield 18, 3) := by decide +kernel
theorem dX7_trueNumber_34 : decode cX7_trueNumber 34 = .ok (.iload_n 1, 1) := by decide +kernel
theorem dX7_trueNumber_35 : decode cX7_trueNumber 35 = .ok (.iaload, 1) := by decide +kernel
theorem dX7_trueNumber_36 : decode cX7_trueNumber 36 = .ok (.iload_n 3, 1) := by decide +kernel
theorem dX7_trueNumber_37 : decode cX7_trueNumber 37 = .ok (.isub, 1) := by decide +kernel
theorem dX7_trueNumber_38 : decode cX7_trueNumber 38 = .ok (.ireturn, 1) := by decide +kernel
def F_X7_trueNumber (a1 : Int32) (a2 : Int32) (h : PH) : Option (Int32 × PH) :=
  if inb a1 40 = true then
  ib (((h.1 102 a1.toNatClampNeg) * (h.1 99 4)) / (100 : Int32)) fun v2 =>
  if a2 = 0 then
    if inb a1 40 = true then
    some ((h.1 102 a1.toNatClampNeg) - v2, h)
    else none
  else
    if inb a1 40 = true then
    some ((h.1 102 a1.toNatClampNeg) + v2, h)
    else none
  else none
set_option maxRecDepth 20000 in
set_option maxHeartbeats 4000000 in
theorem M_X7_trueNumber (E : EV) {a1 : Int32} {a2 : Int32} {r : Int32} {h h2 : PH} (hyp : F_X7_trueNumber a1 a2 h = some (r, h2)) : MI E 103 yX7_trueNumber cX7_trueNumber 4 (some .int) 0 0 [.ref 99, .int a1, .int a2] h r h2 := by
  refine MI.of 1 (by decide) rfl (fun X e1 C => ?_)
  subst e1
  replace C : CX X 103 cX7_trueNumber 4 RX7 (some .int) 0 0 := C
  show V X _ h 0 [some (.ref 99), some (.int a1), some (.int a2), none] []
  unfold F_X7_trueNumber at hyp
  refine V_aload_n (pc := 0) C dX7_trueNumber_0 rfl ?_
  refine V_getR (pc := 1) C dX7_trueNumber_1 lf_X7_18 fk_99_3 ?_
  refine V_iload_n (pc := 4) C dX7_trueNumber_4 rfl ?_
  obtain ⟨g1, hyp⟩ := gd_n hyp
  refine V_iald (pc := 5) C dX7_trueNumber_5 ak_102 g1 ?_
  refine V_aload_n (pc := 6) C dX7_trueNumber_6 rfl ?_
  refine V_getI (pc := 7) C dX7_trueNumber_7 lf_X7_25 fk_99_4 ?_
  refine V_imul (pc := 10) C dX7_trueNumber_10 ?_
  refine V_bipush (pc := 11) C dX7_trueNumber_11 (v := 100) (by decide) ?_
  refine V_idiv (pc := 13) C dX7_trueNumber_13 (by decide) ?_
  obtain ⟨v2, ev2, hyp⟩ := ib_n hyp
  refine V_topI ev2 ?_
  refine V_istore_n (pc := 14) C dX7_trueNumber_14 (by decide) rfl ?_
  refine V_iload_n (pc := 15) C dX7_trueNumber_15 rfl ?_
  refine V_if_eq (pc := 16) C dX7_trueNumber_16 (tgt := 30) (by decide) (fun q3 => ?_) (fun q3 => ?_)
  · replace hyp := (if_pos q3).symm.trans hyp
    refine V_aload_n (pc := 30) C dX7_trueNumber_30 rfl ?_
    refine V_getR (pc := 31) C dX7_trueNumber_31 lf_X7_18 fk_99_3 ?_
    refine V_iload_n (pc := 34) C dX7_trueNumber_34 rfl ?_
    obtain ⟨g4, hyp⟩ := gd_n hyp
    refine V_iald (pc := 35) C dX7_trueNumber_35 ak_102 g4 ?_
    refine V_iload_n (pc := 36) C dX7_trueNumber_36 rfl ?_
    refine V_isub (pc := 37) C dX7_trueNumber_37 ?_
    cases hyp
    exact V_iret C dX7_trueNumber_38
  · replace hyp := (if_neg q3).symm.trans hyp
    refine V_aload_n (pc := 19) C dX7_trueNumber_19 rfl ?_
    refine V_getR (pc := 20) C dX7_trueNumber_20 lf_X7_18 fk_99_3 ?_
    refine V_iload_n (pc := 23) C dX7_trueNumber_23 rfl ?_
    obtain ⟨g5, hyp⟩ := gd_n hyp
    refine V_iald (pc := 24) C dX7_trueNumber_24 ak_102 g5 ?_
    refine V_iload_n (pc := 25) C dX7_trueNumber_25 rfl ?_
    refine V_iadd (pc := 26) C dX7_trueNumber_26 ?_
    refine V_goto (pc := 27) C dX7_trueNumber_27 (tgt := 38) (by decide) ?_
    cases hyp
    exact V_iret C dX7_trueNumber_38
theorem dX7_bends_0 : decode cX7_bends 0 = .ok (.iconst 0, 1) := by decide +kernel
theorem dX7_bends_1 : decode cX7_bends 1 = .ok (.istore 4, 2) := by decide +kernel
theorem dX7_bends_3 : decode cX7_bends 3 = .ok (.iconst 0, 1) := by decide +kernel
theorem dX7_bends_4 : decode cX7_bends 4 = .ok (.istore 5, 2) := by decide +kernel
theorem dX7_bends_6 : decode cX7_bends 6 = .ok (.iload 5, 2) := by decide +kernel
theorem dX7_bends_8 : decode cX7_bends 8 = .ok (.aload_n 0, 1) := by decide +kernel
theorem dX7_bends_9 : decode cX7_bends 9 = .ok (.getfield 21, 3) := by decide +kernel
theorem dX7_bends_12 : decode cX7_bends 12 = .ok (.if_icmp .ge 46, 3) := by decide +kernel
theorem dX7_bends_15 : decode cX7_bends 15 = .ok (.aload_n 0, 1) := by decide +kernel
theorem dX7_bends_16 : decode cX7_bends 16 = .ok (.iload 5, 2) := by decide +kernel
theorem dX7_bends_18 : decode cX7_bends 18 = .ok (.iload_n 1, 1) := by decide +kernel
theorem dX7_bends_19 : decode cX7_bends 19 = .ok (.invokevirtual 48, 3) := by decide +kernel
theorem dX7_bends_22 : decode cX7_bends 22 = .ok (.ifCond .eq 30, 3) := by decide +kernel
theorem dX7_bends_25 : decode cX7_bends 25 = .ok (.iload 4, 2) := by decide +kernel
theorem dX7_bends_27 : decode cX7_bends 27 = .ok (.aload_n 0, 1) := by decide +kernel
theorem dX7_bends_28 : decode cX7_bends 28 = .ok (.iload 5, 2) := by decide +kernel
theorem dX7_bends_30 : decode cX7_bends 30 = .ok (.aload_n 0, 1) := by decide +kernel
theorem dX7_bends_31 : decode cX7_bends 31 = .ok (.iload 5, 2) := by decide +kernel
theorem dX7_bends_33 : decode cX7_bends 33 = .ok (.iload_n 2, 1) := by decide +kernel
theorem dX7_bends_34 : decode cX7_bends 34 = .ok (.invokevirtual 48, 3) := by decide +kernel
theorem dX7_bends_37 : decode cX7_bends 37 = .ok (.iload_n 3, 1) := by decide +kernel
theorem dX7_bends_38 : decode cX7_bends 38 = .ok (.if_icmp .ne 7, 3) := by decide +kernel
theorem dX7_bends_41 : decode cX7_bends 41 = .ok (.iconst 1, 1) := by decide +kernel
theorem dX7_bends_42 : decode cX7_bends 42 = .ok (.goto 4, 3) := by decide +kernel
theorem dX7_bends_45 : decode cX7_bends 45 = .ok (.iconst 0, 1) := by decide +kernel
theorem dX7_bends_46 : decode cX7_bends 46 = .ok (.invokevirtual 52, 3) := by decide +kernel
theorem dX7_bends_49 : decode cX7_bends 49 = .ok (.iadd, 1) := by decide +kernel
theorem dX7_bends_50 : decode cX7_bends 50 = .ok (.istore 4, 2) := by decide +kernel
theorem dX7_bends_52 : decode cX7_bends 52 = .ok (.iinc 5 1, 3) := by decide +kernel
theorem dX7_bends_55 : decode cX7_bends 55 = .ok (.goto (-49), 3) := by decide +kernel
theorem dX7_bends_58 : decode cX7_bends 58 = .ok (.iload 4, 2) := by decide +kernel
theorem dX7_bends_60 : decode cX7_bends 60 = .ok (.ireturn, 1) := by decide +kernel
def F_X7_bends_b52 (N : Nat) (rc6 : Int32 → Int32 → Int32 → Int32 → Int32 → PH → Option (Int32 × PH)) (x1 : Int32) (x2 : Int32) (x3 : Int32) (x4 : Int32) (x5 : Int32) (h : PH) : Option (Int32 × PH) :=
  ib (x5 + (1 : Int32)) fun v1 =>
  rc6 x1 x2 x3 x4 v1 h
set_option maxRecDepth 20000 in
set_option maxHeartbeats 4000000 in
theorem T_X7_bends_b52 {X : CT} (C : CX X 103 cX7_bends 6 RX7 (some .int) 1 23) {r0 : Int32} {h0 : PH} {N : Nat} {rc6 : Int32 → Int32 → Int32 → Int32 → Int32 → PH → Option (Int32 × PH)} (hr6 : ∀ (x1 : Int32) (x2 : Int32) (x3 : Int32) (x4 : Int32) (x5 : Int32) (h : PH), rc6 x1 x2 x3 x4 x5 h = some (r0, h0) → V X (QI X r0 h0) h 6 [some (.ref 99), some (.int x1), some (.int x2), some (.int x3), some (.int x4), some (.int x5)] []) : ∀ (x1 : Int32) (x2 : Int32) (x3 : Int32) (x4 : Int32) (x5 : Int32) (h : PH), F_X7_bends_b52 N rc6 x1 x2 x3 x4 x5 h = some (r0, h0) → V X (QI X r0 h0) h 52 [some (.ref 99), some (.int x1), some (.int x2), some (.int x3), some (.int x4), some (.int x5)] [] := by
  intro x1 x2 x3 x4 x5 h hyp
  unfold F_X7_bends_b52 at hyp
  obtain ⟨v1, ev1, hyp⟩ := ib_n hyp
  refine V_iinc (pc := 52) C dX7_bends_52 (v := v1) rfl (by rw [ev1]; rfl) (by decide) rfl ?_
  refine V_goto (pc := 55) C dX7_bends_55 (tgt := 6) (by decide) ?_
  refine V_weak (lv' := [some (.ref 99), some (.int x1), some (.int x2), some (.int x3), some (.int x4), some (.int v1)]) (lvle_s (lvle_s (lvle_s (lvle_s (lvle_s (lvle_s lvle_0)))))) ?_
  exact hr6 x1 x2 x3 x4 v1 h hyp
def F_X7_bends_b46 (N : Nat) (rc6 : Int32 → Int32 → Int32 → Int32 → Int32 → PH → Option (Int32 × PH)) (x1 : Int32) (x2 : Int32) (x3 : Int32) (x5 : Int32) (s0 : Int32) (s1 : Int32) (s3 : Int32) (h : PH) : Option (Int32 × PH) :=
  bI (F_X7_trueNumber s1 s0 h) fun r1 h2 =>
  ib (s3 + r1) fun v3 =>
  F_X7_bends_b52 N rc6 x1 x2 x3 v3 x5 h2
set_option maxRecDepth 20000 in
set_option maxHeartbeats 4000000 in
theorem T_X7_bends_b46 {X : CT} (C : CX X 103 cX7_bends 6 RX7 (some .int) 1 23) {r0 : Int32} {h0 : PH} {N : Nat} {rc6 : Int32 → Int32 → Int32 → Int32 → Int32 → PH → Option (Int32 × PH)} (hr6 : ∀ (x1 : Int32) (x2 : Int32) (x3 : Int32) (x4 : Int32) (x5 : Int32) (h : PH), rc6 x1 x2 x3 x4 x5 h = some (r0, h0) → V X (QI X r0 h0) h 6 [some (.ref 99), some (.int x1), some (.int x2), some (.int x3), some (.int x4), some (.int x5)] []) : ∀ (x1 : Int32) (x2 : Int32) (x3 : Int32) (x5 : Int32) (s0 : Int32) (s1 : Int32) (s3 : Int32) (h : PH), F_X7_bends_b46 N rc6 x1 x2 x3 x5 s0 s1 s3 h = some (r0, h0) → V X (QI X r0 h0) h 46 [some (.ref 99), some (.int x1), some (.int x2), some (.int x3), none, some (.int x5)] [.int s0, .int s1, .ref 99, .int s3] := by
  intro x1 x2 x3 x5 s0 s1 s3 h hyp
  unfold F_X7_bends_b46 at hyp
  obtain ⟨r1, h2, eh2, hyp⟩ := bI_n hyp
  refine V_callI (pc := 46) C dX7_bends_46 lm_X7_52 mk_X7_trueNumber ok_99 rfl (M_X7_trueNumber _ eh2) rfl pd_X7_trueNumber (by decide) (by decide) (by decide) (As := [.int s1, .int s0]) (rest := [.int s3]) rfl (Nat.le_of_ble_eq_true rfl) ?_
  refine V_iadd (pc := 49) C dX7_bends_49 ?_
  obtain ⟨v3, ev3, hyp⟩ := ib_n hyp
  refine V_topI ev3 ?_
  refine V_istore (pc := 50) C dX7_bends_50 (by decide) rfl ?_
  refine V_weak (lv' := [some (.ref 99), some (.int x1), some (.int x2), some (.int x3), some (.int v3), some (.int x5)]) (lvle_s (lvle_s (lvle_s (lvle_s (lvle_s (lvle_s lvle_0)))))) ?_
  exact (T_X7_bends_b52 C hr6) x1 x2 x3 v3 x5 h2 hyp
def F_X7_bends_b6 (N : Nat) : Nat → Int32 → Int32 → Int32 → Int32 → Int32 → PH → Option (Int32 × PH)
  | 0, _, _, _, _, _, _ => none
  | n + 1, x1, x2, x3, x4, x5, h =>
    if (h.1 99 0) ≤ x5 then
      some (x4, h)
    else
      bI (F_X7_passes x5 x1 h) fun r2 h3 =>
      if r2 = 0 then
        F_X7_bends_b52 N (F_X7_bends_b6 N n) x1 x2 x3 x4 x5 h3
      else
        bI (F_X7_passes x5 x2 h3) fun r5 h6 =>
        if r5 = x3 then
          F_X7_bends_b46 N (F_X7_bends_b6 N n) x1 x2 x3 x5 (1 : Int32) x5 x4 h6
        else
          F_X7_bends_b46 N (F_X7_bends_b6 N n) x1 x2 x3 x5 (0 : Int32) x5 x4 h6
set_option maxRecDepth 20000 in
set_option maxHeartbeats 4000000 in
theorem T_X7_bends_b6 {X : CT} (C : CX X 103 cX7_bends 6 RX7 (some .int) 1 23) {r0 : Int32} {h0 : PH} {N : Nat} : ∀ (n : Nat) (x1 : Int32) (x2 : Int32) (x3 : Int32) (x4 : Int32) (x5 : Int32) (h : PH), F_X7_bends_b6 N n x1 x2 x3 x4 x5 h = some (r0, h0) → V X (QI X r0 h0) h 6 [some (.ref 99), some (.int x1), some (.int x2), some (.int x3), some (.int x4), some (.int x5)] [] := by
  intro n
  induction n with
  | zero =>
    intro x1 x2 x3 x4 x5 h hyp
    cases hyp
  | succ n ih =>
    intro x1 x2 x3 x4 x5 h hyp
    unfold F_X7_bends_b6 at hyp
    refine V_iload (pc := 6) C dX7_bends_6 rfl ?_
    refine V_aload_n (pc := 8) C dX7_bends_8 rfl ?_
    refine V_getI (pc := 9) C dX7_bends_9 lf_X7_21 fk_99_0 ?_
    refine V_icmp_ge (pc := 12) C dX7_bends_12 (tgt := 58) (by decide) (fun q1 => ?_) (fun q1 => ?_)
    · replace hyp := (if_pos q1).symm.trans hyp
      refine V_iload (pc := 58) C dX7_bends_58 rfl ?_
      cases hyp
      exact V_iret C dX7_bends_60
    · replace hyp := (if_neg q1).symm.trans hyp
      refine V_aload_n (pc := 15) C dX7_bends_15 rfl ?_
      refine V_iload (pc := 16) C dX7_bends_16 rfl ?_
      refine V_iload_n (pc := 18) C dX7_bends_18 rfl ?_
      obtain ⟨r2, h3, eh3, hyp⟩ := bI_n hyp
      refine V_callI (pc := 19) C dX7_bends_19 lm_X7_48 mk_X7_passes ok_99 rfl (M_X7_passes _ eh3) rfl pd_X7_passes (by decide) (by decide) (by decide) (As := [.int x5, .int x1]) (rest := []) rfl (Nat.le_of_ble_eq_true rfl) ?_
      refine V_if_eq (pc := 22) C dX7_bends_22 (tgt := 52) (by decide) (fun q4 => ?_) (fun q4 => ?_)
      · replace hyp := (if_pos q4).symm.trans hyp
        refine V_weak (lv' := [some (.ref 99), some (.int x1), some (.int x2), some (.int x3), some (.int x4), some (.int x5)]) (lvle_s (lvle_s (lvle_s (lvle_s (lvle_s (lvle_s lvle_0)))))) ?_
        exact (T_X7_bends_b52 C ih) x1 x2 x3 x4 x5 h3 hyp
      · replace hyp := (if_neg q4).symm.trans hyp
        refine V_iload (pc := 25) C dX7_bends_25 rfl ?_
        refine V_aload_n (pc := 27) C dX7_bends_27 rfl ?_
        refine V_iload (pc := 28) C dX7_bends_28 rfl ?_
        refine V_aload_n (pc := 30) C dX7_bends_30 rfl ?_
        refine V_iload (pc := 31) C dX7_bends_31 rfl ?_
        refine V_iload_n (pc := 33) C dX7_bends_33 rfl ?_
        obtain ⟨r5, h6, eh6, hyp⟩ := bI_n hyp
        refine V_callI (pc := 34) C dX7_bends_34 lm_X7_48 mk_X7_passes ok_99 rfl (M_X7_passes _ eh6) rfl pd_X7_passes (by decide) (by decide) (by decide) (As := [.int x5, .int x2]) (rest := [.int x5, .ref 99, .int x4]) rfl (Nat.le_of_ble_eq_true rfl) ?_
        refine V_iload_n (pc := 37) C dX7_bends_37 rfl ?_
        refine V_icmp_ne (pc := 38) C dX7_bends_38 (tgt := 45) (by decide) (fun q7 => ?_) (fun q7 => ?_)
        · replace hyp := (if_neg q7).symm.trans hyp
          refine V_iconst (pc := 45) C dX7_bends_45 (v := 0) (by decide) ?_
          refine V_weak (lv' := [some (.ref 99), some (.int x1), some (.int x2), some (.int x3), none, some (.int x5)]) (lvle_s (lvle_s (lvle_s (lvle_s (lvle_n (lvle_s lvle_0)))))) ?_
          exact (T_X7_bends_b46 C ih) x1 x2 x3 x5 (0 : Int32) x5 x4 h6 hyp
        · replace hyp := (if_pos q7).symm.trans hyp
          refine V_iconst (pc := 41) C dX7_bends_41 (v := 1) (by decide) ?_
          refine V_goto (pc := 42) C dX7_bends_42 (tgt := 46) (by decide) ?_
          refine V_weak (lv' := [some (.ref 99), some (.int x1), some (.int x2), some (.int x3), none, some (.int x5)]) (lvle_s (lvle_s (lvle_s (lvle_s (lvle_n (lvle_s lvle_0)))))) ?_
          exact (T_X7_bends_b46 C ih) x1 x2 x3 x5 (1 : Int32) x5 x4 h6 hyp
def F_X7_bends (N : Nat) (a1 : Int32) (a2 : Int32) (a3 : Int32) (h : PH) : Option (Int32 × PH) :=
  F_X7_bends_b6 N N a1 a2 a3 (0 : Int32) (0 : Int32) h
set_option maxRecDepth 20000 in
set_option maxHeartbeats 4000000 in
theorem M_X7_bends (E : EV) {N : Nat} {a1 : Int32} {a2 : Int32} {a3 : Int32} {r : Int32} {h h2 : PH} (hyp : F_X7_bends N a1 a2 a3 h = some (r, h2)) : MI E 103 yX7_bends cX7_bends 6 (some .int) 1 23 [.ref 99, .int a1, .int a2, .int a3] h r h2 := by
  refine MI.of 2 (by decide) rfl (fun X e1 C => ?_)
  subst e1
  replace C : CX X 103 cX7_bends 6 RX7 (some .int) 1 23 := C
  show V X _ h 0 [some (.ref 99), some (.int a1), some (.int a2), some (.int a3), none, none] []
  unfold F_X7_bends at hyp
  refine V_iconst (pc := 0) C dX7_bends_0 (v := 0) (by decide) ?_
  refine V_istore (pc := 1) C dX7_bends_1 (by decide) rfl ?_
  refine V_iconst (pc := 3) C dX7_bends_3 (v := 0) (by decide) ?_
  refine V_istore (pc := 4) C dX7_bends_4 (by decide) rfl ?_
  refine V_weak (lv' := [some (.ref 99), some (.int a1), some (.int a2), some (.int a3), some (.int (0 : Int32)), some (.int (0 : Int32))]) (lvle_s (lvle_s (lvle_s (lvle_s (lvle_s (lvle_s lvle_0)))))) ?_
  exact (T_X7_bends_b6 C) N a1 a2 a3 (0 : Int32) (0 : Int32) h hyp
theorem dX7_leastBends_0 : decode cX7_leastBends 0 = .ok (.aload_n 0, 1) := by decide +kernel
theorem dX7_leastBends_1 : decode cX7_leastBends 1 = .ok (.iload_n 1, 1) := by decide +kernel
theorem dX7_leastBends_2 : decode cX7_leastBends 2 = .ok (.iload_n 1, 1) := by decide +kernel
theorem dX7_leastBends_3 : decode cX7_leastBends 3 = .ok (.iconst 0, 1) := by decide +kernel
theorem dX7_leastBends_4 : decode cX7_leastBends 4 = .ok (.invokevirtual 44, 3) := by decide +kernel
theorem dX7_leastBends_7 : decode cX7_leastBends 7 = .ok (.ireturn, 1) := by decide +kernel
def F_X7_leastBends (N : Nat) (a1 : Int32) (h : PH) : Option (Int32 × PH) :=
  bI (F_X7_bends N a1 a1 (0 : Int32) h) fun r1 h2 =>
  some (r1, h2)
set_option maxRecDepth 20000 in
set_option maxHeartbeats 4000000 in
theorem M_X7_leastBends (E : EV) {N : Nat} {a1 : Int32} {r : Int32} {h h2 : PH} (hyp : F_X7_leastBends N a1 h = some (r, h2)) : MI E 103 yX7_leastBends cX7_leastBends 2 (some .int) 2 48 [.ref 99, .int a1] h r h2 := by
  refine MI.of 0 (by decide) rfl (fun X e1 C => ?_)
  subst e1
  replace C : CX X 103 cX7_leastBends 2 RX7 (some .int) 2 48 := C
  show V X _ h 0 [some (.ref 99), some (.int a1)] []
  unfold F_X7_leastBends at hyp
  refine V_aload_n (pc := 0) C dX7_leastBends_0 rfl ?_
  refine V_iload_n (pc := 1) C dX7_leastBends_1 rfl ?_
  refine V_iload_n (pc := 2) C dX7_leastBends_2 rfl ?_
  refine V_iconst (pc := 3) C dX7_leastBends_3 (v := 0) (by decide) ?_
  obtain ⟨r1, h2, eh2, hyp⟩ := bI_n hyp
  refine V_callI (pc := 4) C dX7_leastBends_4 lm_X7_44 mk_X7_bends ok_99 rfl (M_X7_bends _ eh2) rfl pd_X7_bends (by decide) (by decide) (by decide) (As := [.int a1, .int a1, .int (0 : Int32)]) (rest := []) rfl (Nat.le_of_ble_eq_true rfl) ?_
  cases hyp
  exact V_iret C dX7_leastBends_7
theorem dX7_mostBends_0 : decode cX7_mostBends 0 = .ok (.aload_n 0, 1) := by decide +kernel
theorem dX7_mostBends_1 : decode cX7_mostBends 1 = .ok (.iload_n 1, 1) := by decide +kernel
theorem dX7_mostBends_2 : decode cX7_mostBends 2 = .ok (.iload_n 1, 1) := by decide +kernel
theorem dX7_mostBends_3 : decode cX7_mostBends 3 = .ok (.iconst 1, 1) := by decide +kernel
theorem dX7_mostBends_4 : decode cX7_mostBends 4 = .ok (.invokevirtual 44, 3) := by decide +kernel
theorem dX7_mostBends_7 : decode cX7_mostBends 7 = .ok (.ireturn, 1) := by decide +kernel
def F_X7_mostBends (N : Nat) (a1 : Int32) (h : PH) : Option (Int32 × PH) :=
  bI (F_X7_bends N a1 a1 (1 : Int32) h) fun r1 h2 =>
  some (r1, h2)
set_option maxRecDepth 20000 in
set_option maxHeartbeats 4000000 in
theorem M_X7_mostBends (E : EV) {N : Nat} {a1 : Int32} {r : Int32} {h h2 : PH} (hyp : F_X7_mostBends N a1 h = some (r, h2)) : MI E 103 yX7_mostBends cX7_mostBends 2 (some .int) 2 48 [.ref 99, .int a1] h r h2 := by
  refine MI.of 0 (by decide) rfl (fun X e1 C => ?_)
  subst e1
  replace C : CX X 103 cX7_mostBends 2 RX7 (some .int) 2 48 := C
  show V X _ h 0 [some (.ref 99), some (.int a1)] []
  unfold F_X7_mostBends at hyp
  refine V_aload_n (pc := 0) C dX7_mostBends_0 rfl ?_
  refine V_iload_n (pc := 1) C dX7_mostBends_1 rfl ?_
  refine V_iload_n (pc := 2) C dX7_mostBends_2 rfl ?_
  refine V_iconst (pc := 3) C dX7_mostBends_3 (v := 1) (by decide) ?_
  obtain ⟨r1, h2, eh2, hyp⟩ := bI_n hyp
  refine V_callI (pc := 4) C dX7_mostBends_4 lm_X7_44 mk_X7_bends ok_99 rfl (M_X7_bends _ eh2) rfl pd_X7_bends (by decide) (by decide) (by decide) (As := [.int a1, .int a1, .int (1 : Int32)]) (rest := []) rfl (Nat.le_of_ble_eq_true rfl) ?_
  cases hyp
  exact V_iret C dX7_mostBends_7
theorem dX7_worn_0 : decode cX7_worn 0 = .ok (.aload_n 0, 1) := by decide +kernel
theorem dX7_worn_1 : decode cX7_worn 1 = .ok (.iload_n 1, 1) := by decide +kernel
theorem dX7_worn_2 : decode cX7_worn 2 = .ok (.invokevirtual 56, 3) := by decide +kernel
theorem dX7_worn_5 : decode cX7_worn 5 = .ok (.aload_n 0, 1) := by decide +kernel
theorem dX7_worn_6 : decode cX7_worn 6 = .ok (.getfield 28, 3) := by decide +kernel
theorem dX7_worn_9 : decode cX7_worn 9 = .ok (.if_icmp .lt 5, 3) := by decide +kernel
theorem dX7_worn_12 : decode cX7_worn 12 = .ok (.iconst 2, 1) := by decide +kernel
theorem dX7_worn_13 : decode cX7_worn 13 = .ok (.ireturn, 1) := by decide +kernel
theorem dX7_worn_14 : decode cX7_worn 14 = .ok (.aload_n 0, 1) := by decide +kernel
theorem dX7_worn_15 : decode cX7_worn 15 = .ok (.iload_n 1, 1) := by decide +kernel
theorem dX7_worn_16 : decode cX7_worn 16 = .ok (.invokevirtual 60, 3) := by decide +kernel
theorem dX7_worn_19 : decode cX7_worn 19 = .ok (.aload_n 0, 1) := by decide +kernel
theorem dX7_worn_20 : decode cX7_worn 20 = .ok (.getfield 28, 3) := by decide +kernel
theorem dX7_worn_23 : decode cX7_worn 23 = .ok (.if_icmp .lt 7, 3) := by decide +kernel
theorem dX7_worn_26 : decode cX7_worn 26 = .ok (.iconst 1, 1) := by decide +kernel
theorem dX7_worn_27 : decode cX7_worn 27 = .ok (.goto 4, 3) := by decide +kernel
theorem dX7_worn_30 : decode cX7_worn 30 = .ok (.iconst 0, 1) := by decide +kernel
theorem dX7_worn_31 : decode cX7_worn 31 = .ok (.ireturn, 1) := by decide +kernel
def F_X7_worn (N : Nat) (a1 : Int32) (h : PH) : Option (Int32 × PH) :=
  bI (F_X7_leastBends N a1 h) fun r1 h2 =>
  if r1 < (h2.1 99 5) then
    bI (F_X7_mostBends N a1 h2) fun r4 h5 =>
    if r4 < (h5.1 99 5) then
      some ((0 : Int32), h5)
    else
      some ((1 : Int32), h5)
  else
    some ((2 : Int32), h2)
set_option maxRecDepth 20000 in
set_option maxHeartbeats 4000000 in
theorem M_X7_worn (E : EV) {N : Nat} {a1 : Int32} {r : Int32} {h h2 : PH} (hyp : F_X7_worn N a1 h = some (r, h2)) : MI E 103 yX7_worn cX7_worn 2 (some .int) 3 69 [.ref 99, .int a1] h r h2 := by
  refine MI.of 0 (by decide) rfl (fun X e1 C => ?_)
  subst e1
  replace C : CX X 103 cX7_worn 2 RX7 (some .int) 3 69 := C
  show V X _ h 0 [some (.ref 99), some (.int a1)] []
  unfold F_X7_worn at hyp
  refine V_aload_n (pc := 0) C dX7_worn_0 rfl ?_
  refine V_iload_n (pc := 1) C dX7_worn_1 rfl ?_
  obtain ⟨r1, h2, eh2, hyp⟩ := bI_n hyp
  refine V_callI (pc := 2) C dX7_worn_2 lm_X7_56 mk_X7_leastBends ok_99 rfl (M_X7_leastBends _ eh2) rfl pd_X7_leastBends (by decide) (by decide) (by decide) (As := [.int a1]) (rest := []) rfl (Nat.le_of_ble_eq_true rfl) ?_
  refine V_aload_n (pc := 5) C dX7_worn_5 rfl ?_
  refine V_getI (pc := 6) C dX7_worn_6 lf_X7_28 fk_99_5 ?_
  refine V_icmp_lt (pc := 9) C dX7_worn_9 (tgt := 14) (by decide) (fun q3 => ?_) (fun q3 => ?_)
  · replace hyp := (if_pos q3).symm.trans hyp
    refine V_aload_n (pc := 14) C dX7_worn_14 rfl ?_
    refine V_iload_n (pc := 15) C dX7_worn_15 rfl ?_
    obtain ⟨r4, h5, eh5, hyp⟩ := bI_n hyp
    refine V_callI (pc := 16) C dX7_worn_16 lm_X7_60 mk_X7_mostBends ok_99 rfl (M_X7_mostBends _ eh5) rfl pd_X7_mostBends (by decide) (by decide) (by decide) (As := [.int a1]) (rest := []) rfl (Nat.le_of_ble_eq_true rfl) ?_
    refine V_aload_n (pc := 19) C dX7_worn_19 rfl ?_
    refine V_getI (pc := 20) C dX7_worn_20 lf_X7_28 fk_99_5 ?_
    refine V_icmp_lt (pc := 23) C dX7_worn_23 (tgt := 30) (by decide) (fun q6 => ?_) (fun q6 => ?_)
    · replace hyp := (if_pos q6).symm.trans hyp
      refine V_iconst (pc := 30) C dX7_worn_30 (v := 0) (by decide) ?_
      cases hyp
      exact V_iret C dX7_worn_31
    · replace hyp := (if_neg q6).symm.trans hyp
      refine V_iconst (pc := 26) C dX7_worn_26 (v := 1) (by decide) ?_
      refine V_goto (pc := 27) C dX7_worn_27 (tgt := 31) (by decide) ?_
      cases hyp
      exact V_iret C dX7_worn_31
  · replace hyp := (if_neg q3).symm.trans hyp
    refine V_iconst (pc := 12) C dX7_worn_12 (v := 2) (by decide) ?_
    cases hyp
    exact V_iret C dX7_worn_13
theorem dX7_leads_0 : decode cX7_leads 0 = .ok (.aload_n 0, 1) := by decide +kernel
theorem dX7_leads_1 : decode cX7_leads 1 = .ok (.iload_n 1, 1) := by decide +kernel
theorem dX7_leads_2 : decode cX7_leads 2 = .ok (.iload_n 1, 1) := by decide +kernel
theorem dX7_leads_3 : decode cX7_leads 3 = .ok (.iload_n 3, 1) := by decide +kernel
theorem dX7_leads_4 : decode cX7_leads 4 = .ok (.invokevirtual 44, 3) := by decide +kernel
theorem dX7_leads_7 : decode cX7_leads 7 = .ok (.istore 4, 2) := by decide +kernel
theorem dX7_leads_9 : decode cX7_leads 9 = .ok (.iconst 0, 1) := by decide +kernel
theorem dX7_leads_10 : decode cX7_leads 10 = .ok (.istore 5, 2) := by decide +kernel
theorem dX7_leads_12 : decode cX7_leads 12 = .ok (.iload 5, 2) := by decide +kernel
theorem dX7_leads_14 : decode cX7_leads 14 = .ok (.iload_n 2, 1) := by decide +kernel
theorem dX7_leads_15 : decode cX7_leads 15 = .ok (.if_icmp .ge 24, 3) := by decide +kernel
theorem dX7_leads_18 : decode cX7_leads 18 = .ok (.aload_n 0, 1) := by decide +kernel
theorem dX7_leads_19 : decode cX7_leads 19 = .ok (.iload 5, 2) := by decide +kernel
theorem dX7_leads_21 : decode cX7_leads 21 = .ok (.iload_n 1, 1) := by decide +kernel
theorem dX7_leads_22 : decode cX7_leads 22 = .ok (.iload_n 3, 1) := by decide +kernel
theorem dX7_leads_23 : decode cX7_leads 23 = .ok (.invokevirtual 44, 3) := by decide +kernel
theorem dX7_leads_26 : decode cX7_leads 26 = .ok (.iload 4, 2) := by decide +kernel
theorem dX7_leads_28 : decode cX7_leads 28 = .ok (.if_icmp .le 5, 3) := by decide +kernel
theorem dX7_leads_31 : decode cX7_leads 31 = .ok (.iconst 0, 1) := by decide +kernel
theorem dX7_leads_32 : decode cX7_leads 32 = .ok (.ireturn, 1) := by decide +kernel
theorem dX7_leads_33 : decode cX7_leads 33 = .ok (.iinc 5 1, 3) := by decide +kernel
theorem dX7_leads_36 : decode cX7_leads 36 = .ok (.goto (-24), 3) := by decide +kernel
theorem dX7_leads_39 : decode cX7_leads 39 = .ok (.iconst 1, 1) := by decide +kernel
theorem dX7_leads_40 : decode cX7_leads 40 = .ok (.ireturn, 1) := by decide +kernel
def F_X7_leads_b12 (N : Nat) : Nat → Int32 → Int32 → Int32 → Int32 → Int32 → PH → Option (Int32 × PH)
  | 0, _, _, _, _, _, _ => none
  | n + 1, x1, x2, x3, x4, x5, h =>
    if x2 ≤ x5 then
      some ((1 : Int32), h)
    else
      bI (F_X7_bends N x5 x1 x3 h) fun r2 h3 =>
      if r2 ≤ x4 then
        ib (x5 + (1 : Int32)) fun v5 =>
        F_X7_leads_b12 N n x1 x2 x3 x4 v5 h3
      else
        some ((0 : Int32), h3)
set_option maxRecDepth 20000 in
set_option maxHeartbeats 4000000 in
theorem T_X7_leads_b12 {X : CT} (C : CX X 103 cX7_leads 6 RX7 (some .boolean) 2 48) {r0 : Int32} {h0 : PH} {N : Nat} : ∀ (n : Nat) (x1 : Int32) (x2 : Int32) (x3 : Int32) (x4 : Int32) (x5 : Int32) (h : PH), F_X7_leads_b12 N n x1 x2 x3 x4 x5 h = some (r0, h0) → V X (QI X r0 h0) h 12 [some (.ref 99), some (.int x1), some (.int x2), some (.int x3), some (.int x4), some (.int x5)] [] := by
  intro n
  induction n with
  | zero =>
    intro x1 x2 x3 x4 x5 h hyp
    cases hyp
  | succ n ih =>
    intro x1 x2 x3 x4 x5 h hyp
    unfold F_X7_leads_b12 at hyp
    refine V_iload (pc := 12) C dX7_leads_12 rfl ?_
    refine V_iload_n (pc := 14) C dX7_leads_14 rfl ?_
    refine V_icmp_ge (pc := 15) C dX7_leads_15 (tgt := 39) (by decide) (fun q1 => ?_) (fun q1 => ?_)
    · replace hyp := (if_pos q1).symm.trans hyp
      refine V_iconst (pc := 39) C dX7_leads_39 (v := 1) (by decide) ?_
      cases hyp
      exact V_zret C dX7_leads_40 rfl
    · replace hyp := (if_neg q1).symm.trans hyp
      refine V_aload_n (pc := 18) C dX7_leads_18 rfl ?_
      refine V_iload (pc := 19) C dX7_leads_19 rfl ?_
      refine V_iload_n (pc := 21) C dX7_leads_21 rfl ?_
      refine V_iload_n (pc := 22) C dX7_leads_22 rfl ?_
      obtain ⟨r2, h3, eh3, hyp⟩ := bI_n hyp
      refine V_callI (pc := 23) C dX7_leads_23 lm_X7_44 mk_X7_bends ok_99 rfl (M_X7_bends _ eh3) rfl pd_X7_bends (by decide) (by decide) (by decide) (As := [.int x5, .int x1, .int x3]) (rest := []) rfl (Nat.le_of_ble_eq_true rfl) ?_
      refine V_iload (pc := 26) C dX7_leads_26 rfl ?_
      refine V_icmp_le (pc := 28) C dX7_leads_28 (tgt := 33) (by decide) (fun q4 => ?_) (fun q4 => ?_)
      · replace hyp := (if_pos q4).symm.trans hyp
        obtain ⟨v5, ev5, hyp⟩ := ib_n hyp
        refine V_iinc (pc := 33) C dX7_leads_33 (v := v5) rfl (by rw [ev5]; rfl) (by decide) rfl ?_
        refine V_goto (pc := 36) C dX7_leads_36 (tgt := 12) (by decide) ?_
        refine V_weak (lv' := [some (.ref 99), some (.int x1), some (.int x2), some (.int x3), some (.int x4), some (.int v5)]) (lvle_s (lvle_s (lvle_s (lvle_s (lvle_s (lvle_s lvle_0)))))) ?_
        exact ih x1 x2 x3 x4 v5 h3 hyp
      · replace hyp := (if_neg q4).symm.trans hyp
        refine V_iconst (pc := 31) C dX7_leads_31 (v := 0) (by decide) ?_
        cases hyp
        exact V_zret C dX7_leads_32 rfl
def F_X7_leads (N : Nat) (a1 : Int32) (a2 : Int32) (a3 : Int32) (h : PH) : Option (Int32 × PH) :=
  bI (F_X7_bends N a1 a1 a3 h) fun r1 h2 =>
  F_X7_leads_b12 N N a1 a2 a3 r1 (0 : Int32) h2
set_option maxRecDepth 20000 in
set_option maxHeartbeats 4000000 in
theorem M_X7_leads (E : EV) {N : Nat} {a1 : Int32} {a2 : Int32} {a3 : Int32} {r : Int32} {h h2 : PH} (hyp : F_X7_leads N a1 a2 a3 h = some (r, h2)) : MI E 103 yX7_leads cX7_leads 6 (some .boolean) 2 48 [.ref 99, .int a1, .int a2, .int a3] h r h2 := by
  refine MI.of 2 (by decide) rfl (fun X e1 C => ?_)
  subst e1
  replace C : CX X 103 cX7_leads 6 RX7 (some .boolean) 2 48 := C
  show V X _ h 0 [some (.ref 99), some (.int a1), some (.int a2), some (.int a3), none, none] []
  unfold F_X7_leads at hyp
  refine V_aload_n (pc := 0) C dX7_leads_0 rfl ?_
  refine V_iload_n (pc := 1) C dX7_leads_1 rfl ?_
  refine V_iload_n (pc := 2) C dX7_leads_2 rfl ?_
  refine V_iload_n (pc := 3) C dX7_leads_3 rfl ?_
  obtain ⟨r1, h2, eh2, hyp⟩ := bI_n hyp
  refine V_callI (pc := 4) C dX7_leads_4 lm_X7_44 mk_X7_bends ok_99 rfl (M_X7_bends _ eh2) rfl pd_X7_bends (by decide) (by decide) (by decide) (As := [.int a1, .int a1, .int a3]) (rest := []) rfl (Nat.le_of_ble_eq_true rfl) ?_
  refine V_istore (pc := 7) C dX7_leads_7 (by decide) rfl ?_
  refine V_iconst (pc := 9) C dX7_leads_9 (v := 0) (by decide) ?_
  refine V_istore (pc := 10) C dX7_leads_10 (by decide) rfl ?_
  refine V_weak (lv' := [some (.ref 99), some (.int a1), some (.int a2), some (.int a3), some (.int r1), some (.int (0 : Int32))]) (lvle_s (lvle_s (lvle_s (lvle_s (lvle_s (lvle_s lvle_0)))))) ?_
  exact (T_X7_leads_b12 C) N a1 a2 a3 r1 (0 : Int32) h2 hyp
theorem dX7_daysLeft_0 : decode cX7_daysLeft 0 = .ok (.iload_n 1, 1) := by decide +kernel
theorem dX7_daysLeft_1 : decode cX7_daysLeft 1 = .ok (.ifCond .gt 7, 3) := by decide +kernel
theorem dX7_daysLeft_4 : decode cX7_daysLeft 4 = .ok (.ldc2_w 63, 3) := by decide +kernel
theorem dX7_daysLeft_7 : decode cX7_daysLeft 7 = .ok (.lreturn, 1) := by decide +kernel
theorem dX7_daysLeft_8 : decode cX7_daysLeft 8 = .ok (.lconst 0, 1) := by decide +kernel
theorem dX7_daysLeft_9 : decode cX7_daysLeft 9 = .ok (.aload_n 0, 1) := by decide +kernel
theorem dX7_daysLeft_10 : decode cX7_daysLeft 10 = .ok (.getfield 28, 3) := by decide +kernel
theorem dX7_daysLeft_13 : decode cX7_daysLeft 13 = .ok (.iload_n 1, 1) := by decide +kernel
theorem dX7_daysLeft_14 : decode cX7_daysLeft 14 = .ok (.isub, 1) := by decide +kernel
theorem dX7_daysLeft_15 : decode cX7_daysLeft 15 = .ok (.i2l, 1) := by decide +kernel
theorem dX7_daysLeft_16 : decode cX7_daysLeft 16 = .ok (.aload_n 0, 1) := by decide +kernel
theorem dX7_daysLeft_17 : decode cX7_daysLeft 17 = .ok (.getfield 31, 3) := by decide +kernel
theorem dX7_daysLeft_20 : decode cX7_daysLeft 20 = .ok (.i2l, 1) := by decide +kernel
theorem dX7_daysLeft_21 : decode cX7_daysLeft 21 = .ok (.lmul, 1) := by decide +kernel
theorem dX7_daysLeft_22 : decode cX7_daysLeft 22 = .ok (.iload_n 1, 1) := by decide +kernel
theorem dX7_daysLeft_23 : decode cX7_daysLeft 23 = .ok (.i2l, 1) := by decide +kernel
theorem dX7_daysLeft_24 : decode cX7_daysLeft 24 = .ok (.ldiv, 1) := by decide +kernel
theorem dX7_daysLeft_25 : decode cX7_daysLeft 25 = .ok (.invokestatic 65, 3) := by decide +kernel
theorem dX7_daysLeft_28 : decode cX7_daysLeft 28 = .ok (.lreturn, 1) := by decide +kernel
def F_X7_daysLeft (a1 : Int32) (h : PH) : Option (Int64 × PH) :=
  if 0 < a1 then
    if ¬ a1.toInt64 = 0 then
    some (lmax (0 : Int64) (((((h.1 99 5) - a1).toInt64) * ((h.1 99 6).toInt64)) / a1.toInt64), h)
    else none
  else
    some ((-1 : Int64), h)
set_option maxRecDepth 20000 in
set_option maxHeartbeats 4000000 in
theorem M_X7_daysLeft (E : EV) {a1 : Int32} {r : Int64} {h h2 : PH} (hyp : F_X7_daysLeft a1 h = some (r, h2)) : ML E 103 yX7_daysLeft cX7_daysLeft 2 (some .long) 1 23 [.ref 99, .int a1] h r h2 := by
  refine ML.of 0 (by decide) rfl (fun X e1 C => ?_)
  subst e1
  replace C : CX X 103 cX7_daysLeft 2 RX7 (some .long) 1 23 := C
  show V X _ h 0 [some (.ref 99), some (.int a1)] []
  unfold F_X7_daysLeft at hyp
  refine V_iload_n (pc := 0) C dX7_daysLeft_0 rfl ?_
  refine V_if_gt (pc := 1) C dX7_daysLeft_1 (tgt := 8) (by decide) (fun q1 => ?_) (fun q1 => ?_)
  · replace hyp := (if_pos q1).symm.trans hyp
    refine V_lconst (pc := 8) C dX7_daysLeft_8 (v := 0) (by decide) ?_
    refine V_aload_n (pc := 9) C dX7_daysLeft_9 rfl ?_
    refine V_getI (pc := 10) C dX7_daysLeft_10 lf_X7_28 fk_99_5 ?_
    refine V_iload_n (pc := 13) C dX7_daysLeft_13 rfl ?_
    refine V_isub (pc := 14) C dX7_daysLeft_14 ?_
    refine V_i2l (pc := 15) C dX7_daysLeft_15 ?_
    refine V_aload_n (pc := 16) C dX7_daysLeft_16 rfl ?_
    refine V_getI (pc := 17) C dX7_daysLeft_17 lf_X7_31 fk_99_6 ?_
    refine V_i2l (pc := 20) C dX7_daysLeft_20 ?_
    refine V_lmul (pc := 21) C dX7_daysLeft_21 ?_
    refine V_iload_n (pc := 22) C dX7_daysLeft_22 rfl ?_
    refine V_i2l (pc := 23) C dX7_daysLeft_23 ?_
    obtain ⟨g2, hyp⟩ := gd_n hyp
    refine V_ldiv (pc := 24) C dX7_daysLeft_24 g2 ?_
    refine V_mmaxL (pc := 25) C dX7_daysLeft_25 lm_X7_65 (by decide) (Nat.le_of_ble_eq_true rfl) ?_
    cases hyp
    exact V_lret C dX7_daysLeft_28
  · replace hyp := (if_neg q1).symm.trans hyp
    refine V_ldc2 (pc := 4) C dX7_daysLeft_4 ll_X7_63 ?_
    cases hyp
    exact V_lret C dX7_daysLeft_7
