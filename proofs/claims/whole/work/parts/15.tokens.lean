theorem dX8_put_0 : decode cX8_put 0 = .ok (.bipush 56, 2) := by decide +kernel
theorem dX8_put_2 : decode cX8_put 2 = .ok (.istore_n 3, 1) := by decide +kernel
theorem dX8_put_3 : decode cX8_put 3 = .ok (.iload_n 3, 1) := by decide +kernel
theorem dX8_put_4 : decode cX8_put 4 = .ok (.ifCond .lt 86, 3) := by decide +kernel
theorem dX8_put_7 : decode cX8_put 7 = .ok (.lload_n 1, 1) := by decide +kernel
theorem dX8_put_8 : decode cX8_put 8 = .ok (.iload_n 3, 1) := by decide +kernel
theorem dX8_put_9 : decode cX8_put 9 = .ok (.lshr, 1) := by decide +kernel
theorem dX8_put_10 : decode cX8_put 10 = .ok (.l2i, 1) := by decide +kernel
theorem dX8_put_11 : decode cX8_put 11 = .ok (.sipush 255, 3) := by decide +kernel
theorem dX8_put_14 : decode cX8_put 14 = .ok (.iand, 1) := by decide +kernel
theorem dX8_put_15 : decode cX8_put 15 = .ok (.istore 4, 2) := by decide +kernel
theorem dX8_put_17 : decode cX8_put 17 = .ok (.iload 4, 2) := by decide +kernel
theorem dX8_put_19 : decode cX8_put 19 = .ok (.bipush 10, 2) := by decide +kernel
theorem dX8_put_21 : decode cX8_put 21 = .ok (.if_icmp .eq 17, 3) := by decide +kernel
theorem dX8_put_24 : decode cX8_put 24 = .ok (.iload 4, 2) := by decide +kernel
theorem dX8_put_26 : decode cX8_put 26 = .ok (.bipush 32, 2) := by decide +kernel
theorem dX8_put_28 : decode cX8_put 28 = .ok (.if_icmp .lt 14, 3) := by decide +kernel
theorem dX8_put_31 : decode cX8_put 31 = .ok (.iload 4, 2) := by decide +kernel
theorem dX8_put_33 : decode cX8_put 33 = .ok (.bipush 126, 2) := by decide +kernel
theorem dX8_put_35 : decode cX8_put 35 = .ok (.if_icmp .gt 7, 3) := by decide +kernel
theorem dX8_put_38 : decode cX8_put 38 = .ok (.iconst 1, 1) := by decide +kernel
theorem dX8_put_39 : decode cX8_put 39 = .ok (.goto 4, 3) := by decide +kernel
theorem dX8_put_42 : decode cX8_put 42 = .ok (.iconst 0, 1) := by decide +kernel
theorem dX8_put_43 : decode cX8_put 43 = .ok (.istore 5, 2) := by decide +kernel
theorem dX8_put_45 : decode cX8_put 45 = .ok (.iload 5, 2) := by decide +kernel
theorem dX8_put_47 : decode cX8_put 47 = .ok (.ifCond .eq 37, 3) := by decide +kernel
theorem dX8_put_50 : decode cX8_put 50 = .ok (.aload_n 0, 1) := by decide +kernel
theorem dX8_put_51 : decode cX8_put 51 = .ok (.getfield 15, 3) := by decide +kernel
theorem dX8_put_54 : decode cX8_put 54 = .ok (.aload_n 0, 1) := by decide +kernel
theorem dX8_put_55 : decode cX8_put 55 = .ok (.getfield 9, 3) := by decide +kernel
theorem dX8_put_58 : decode cX8_put 58 = .ok (.arraylength, 1) := by decide +kernel
theorem dX8_put_59 : decode cX8_put 59 = .ok (.if_icmp .ge 25, 3) := by decide +kernel
theorem dX8_put_62 : decode cX8_put 62 = .ok (.aload_n 0, 1) := by decide +kernel
theorem dX8_put_63 : decode cX8_put 63 = .ok (.getfield 9, 3) := by decide +kernel
theorem dX8_put_66 : decode cX8_put 66 = .ok (.aload_n 0, 1) := by decide +kernel
theorem dX8_put_67 : decode cX8_put 67 = .ok (.getfield 15, 3) := by decide +kernel
theorem dX8_put_70 : decode cX8_put 70 = .ok (.iload 4, 2) := by decide +kernel
theorem dX8_put_72 : decode cX8_put 72 = .ok (.i2c, 1) := by decide +kernel
theorem dX8_put_73 : decode cX8_put 73 = .ok (.castore, 1) := by decide +kernel
theorem dX8_put_74 : decode cX8_put 74 = .ok (.aload_n 0, 1) := by decide +kernel
theorem dX8_put_75 : decode cX8_put 75 = .ok (.dup, 1) := by decide +kernel
theorem dX8_put_76 : decode cX8_put 76 = .ok (.getfield 15, 3) := by decide +kernel
theorem dX8_put_79 : decode cX8_put 79 = .ok (.iconst 1, 1) := by decide +kernel
theorem dX8_put_80 : decode cX8_put 80 = .ok (.iadd, 1) := by decide +kernel
theorem dX8_put_81 : decode cX8_put 81 = .ok (.putfield 15, 3) := by decide +kernel
theorem dX8_put_84 : decode cX8_put 84 = .ok (.iinc 3 (-8), 3) := by decide +kernel
theorem dX8_put_87 : decode cX8_put 87 = .ok (.goto (-84), 3) := by decide +kernel
theorem dX8_put_90 : decode cX8_put 90 = .ok (.return_, 1) := by decide +kernel
def F_X8_put_b84 (N : Nat) (rc3 : Int64 → Int32 → PH → Option PH) (x1 : Int64) (x3 : Int32) (h : PH) : Option PH :=
  ib (x3 + (-8 : Int32)) fun v1 =>
  rc3 x1 v1 h
set_option maxRecDepth 20000 in
set_option maxHeartbeats 4000000 in
theorem T_X8_put_b84 {X : CT} (C : CX X 103 cX8_put 6 RX8 none 0 0) {h0 : PH} {N : Nat} {rc3 : Int64 → Int32 → PH → Option PH} (hr3 : ∀ (x1 : Int64) (x3 : Int32) (h : PH), rc3 x1 x3 h = some h0 → V X (QV X h0) h 3 [some (.ref 1), some (.long x1), none, some (.int x3), none, none] []) : ∀ (x1 : Int64) (x3 : Int32) (h : PH), F_X8_put_b84 N rc3 x1 x3 h = some h0 → V X (QV X h0) h 84 [some (.ref 1), some (.long x1), none, some (.int x3), none, none] [] := by
  intro x1 x3 h hyp
  unfold F_X8_put_b84 at hyp
  obtain ⟨v1, ev1, hyp⟩ := ib_n hyp
  refine V_iinc (pc := 84) C dX8_put_84 (v := v1) rfl (by rw [ev1]; rfl) (by decide) rfl ?_
  refine V_goto (pc := 87) C dX8_put_87 (tgt := 3) (by decide) ?_
  refine V_weak (lv' := [some (.ref 1), some (.long x1), none, some (.int v1), none, none]) (lvle_s (lvle_s (lvle_n (lvle_s (lvle_n (lvle_n lvle_0)))))) ?_
  exact hr3 x1 v1 h hyp
def F_X8_put_b43 (N : Nat) (rc3 : Int64 → Int32 → PH → Option PH) (x1 : Int64) (x3 : Int32) (x4 : Int32) (s0 : Int32) (h : PH) : Option PH :=
  if s0 = 0 then
    F_X8_put_b84 N rc3 x1 x3 h
  else
    if (1000 : Int32) ≤ (h.1 1 1) then
      F_X8_put_b84 N rc3 x1 x3 h
    else
      if inb (h.1 1 1) 1000 = true then
      hb (hs h 2 (h.1 1 1).toNatClampNeg (vp_nar .char ((x4.toUInt32 % 65536).toInt32))) fun h4 =>
      hb (hs h4 1 1 ((h4.1 1 1) + (1 : Int32))) fun h5 =>
      F_X8_put_b84 N rc3 x1 x3 h5
      else none
set_option maxRecDepth 20000 in
set_option maxHeartbeats 4000000 in
theorem T_X8_put_b43 {X : CT} (C : CX X 103 cX8_put 6 RX8 none 0 0) {h0 : PH} {N : Nat} {rc3 : Int64 → Int32 → PH → Option PH} (hr3 : ∀ (x1 : Int64) (x3 : Int32) (h : PH), rc3 x1 x3 h = some h0 → V X (QV X h0) h 3 [some (.ref 1), some (.long x1), none, some (.int x3), none, none] []) : ∀ (x1 : Int64) (x3 : Int32) (x4 : Int32) (s0 : Int32) (h : PH), F_X8_put_b43 N rc3 x1 x3 x4 s0 h = some h0 → V X (QV X h0) h 43 [some (.ref 1), some (.long x1), none, some (.int x3), some (.int x4), none] [.int s0] := by
  intro x1 x3 x4 s0 h hyp
  unfold F_X8_put_b43 at hyp
  refine V_istore (pc := 43) C dX8_put_43 (by decide) rfl ?_
  refine V_iload (pc := 45) C dX8_put_45 rfl ?_
  refine V_if_eq (pc := 47) C dX8_put_47 (tgt := 84) (by decide) (fun q1 => ?_) (fun q1 => ?_)
  · replace hyp := (if_pos q1).symm.trans hyp
    refine V_weak (lv' := [some (.ref 1), some (.long x1), none, some (.int x3), none, none]) (lvle_s (lvle_s (lvle_n (lvle_s (lvle_n (lvle_n lvle_0)))))) ?_
    exact (T_X8_put_b84 C hr3) x1 x3 h hyp
  · replace hyp := (if_neg q1).symm.trans hyp
    refine V_aload_n (pc := 50) C dX8_put_50 rfl ?_
    refine V_getI (pc := 51) C dX8_put_51 lf_X8_15 fk_1_1 ?_
    refine V_aload_n (pc := 54) C dX8_put_54 rfl ?_
    refine V_getR (pc := 55) C dX8_put_55 lf_X8_9 fk_1_0 ?_
    refine V_alen (pc := 58) C dX8_put_58 ak_2 (by decide) (v := 1000) rfl ?_
    refine V_icmp_ge (pc := 59) C dX8_put_59 (tgt := 84) (by decide) (fun q2 => ?_) (fun q2 => ?_)
    · replace hyp := (if_pos q2).symm.trans hyp
      refine V_weak (lv' := [some (.ref 1), some (.long x1), none, some (.int x3), none, none]) (lvle_s (lvle_s (lvle_n (lvle_s (lvle_n (lvle_n lvle_0)))))) ?_
      exact (T_X8_put_b84 C hr3) x1 x3 h hyp
    · replace hyp := (if_neg q2).symm.trans hyp
      refine V_aload_n (pc := 62) C dX8_put_62 rfl ?_
      refine V_getR (pc := 63) C dX8_put_63 lf_X8_9 fk_1_0 ?_
      refine V_aload_n (pc := 66) C dX8_put_66 rfl ?_
      refine V_getI (pc := 67) C dX8_put_67 lf_X8_15 fk_1_1 ?_
      refine V_iload (pc := 70) C dX8_put_70 rfl ?_
      refine V_i2c (pc := 72) C dX8_put_72 ?_
      obtain ⟨g3, hyp⟩ := gd_n hyp
      obtain ⟨h4, eh4, hyp⟩ := hb_n hyp
      refine V_cast (pc := 73) C dX8_put_73 ak_2 g3 eh4 ?_
      refine V_aload_n (pc := 74) C dX8_put_74 rfl ?_
      refine V_dup (pc := 75) C dX8_put_75 rfl ?_
      refine V_getI (pc := 76) C dX8_put_76 lf_X8_15 fk_1_1 ?_
      refine V_iconst (pc := 79) C dX8_put_79 (v := 1) (by decide) ?_
      refine V_iadd (pc := 80) C dX8_put_80 ?_
      obtain ⟨h5, eh5, hyp⟩ := hb_n hyp
      refine V_putI (pc := 81) C dX8_put_81 lf_X8_15 fk_1_1 rfl rfl eh5 ?_
      refine V_weak (lv' := [some (.ref 1), some (.long x1), none, some (.int x3), none, none]) (lvle_s (lvle_s (lvle_n (lvle_s (lvle_n (lvle_n lvle_0)))))) ?_
      exact (T_X8_put_b84 C hr3) x1 x3 h5 hyp
def F_X8_put_b38 (N : Nat) (rc3 : Int64 → Int32 → PH → Option PH) (x1 : Int64) (x3 : Int32) (x4 : Int32) (h : PH) : Option PH :=
  F_X8_put_b43 N rc3 x1 x3 x4 (1 : Int32) h
set_option maxRecDepth 20000 in
set_option maxHeartbeats 4000000 in
theorem T_X8_put_b38 {X : CT} (C : CX X 103 cX8_put 6 RX8 none 0 0) {h0 : PH} {N : Nat} {rc3 : Int64 → Int32 → PH → Option PH} (hr3 : ∀ (x1 : Int64) (x3 : Int32) (h : PH), rc3 x1 x3 h = some h0 → V X (QV X h0) h 3 [some (.ref 1), some (.long x1), none, some (.int x3), none, none] []) : ∀ (x1 : Int64) (x3 : Int32) (x4 : Int32) (h : PH), F_X8_put_b38 N rc3 x1 x3 x4 h = some h0 → V X (QV X h0) h 38 [some (.ref 1), some (.long x1), none, some (.int x3), some (.int x4), none] [] := by
  intro x1 x3 x4 h hyp
  unfold F_X8_put_b38 at hyp
  refine V_iconst (pc := 38) C dX8_put_38 (v := 1) (by decide) ?_
  refine V_goto (pc := 39) C dX8_put_39 (tgt := 43) (by decide) ?_
  refine V_weak (lv' := [some (.ref 1), some (.long x1), none, some (.int x3), some (.int x4), none]) (lvle_s (lvle_s (lvle_n (lvle_s (lvle_s (lvle_n lvle_0)))))) ?_
  exact (T_X8_put_b43 C hr3) x1 x3 x4 (1 : Int32) h hyp
def F_X8_put_b42 (N : Nat) (rc3 : Int64 → Int32 → PH → Option PH) (x1 : Int64) (x3 : Int32) (x4 : Int32) (h : PH) : Option PH :=
  F_X8_put_b43 N rc3 x1 x3 x4 (0 : Int32) h
set_option maxRecDepth 20000 in
set_option maxHeartbeats 4000000 in
theorem T_X8_put_b42 {X : CT} (C : CX X 103 cX8_put 6 RX8 none 0 0) {h0 : PH} {N : Nat} {rc3 : Int64 → Int32 → PH → Option PH} (hr3 : ∀ (x1 : Int64) (x3 : Int32) (h : PH), rc3 x1 x3 h = some h0 → V X (QV X h0) h 3 [some (.ref 1), some (.long x1), none, some (.int x3), none, none] []) : ∀ (x1 : Int64) (x3 : Int32) (x4 : Int32) (h : PH), F_X8_put_b42 N rc3 x1 x3 x4 h = some h0 → V X (QV X h0) h 42 [some (.ref 1), some (.long x1), none, some (.int x3), some (.int x4), none] [] := by
  intro x1 x3 x4 h hyp
  unfold F_X8_put_b42 at hyp
  refine V_iconst (pc := 42) C dX8_put_42 (v := 0) (by decide) ?_
  refine V_weak (lv' := [some (.ref 1), some (.long x1), none, some (.int x3), some (.int x4), none]) (lvle_s (lvle_s (lvle_n (lvle_s (lvle_s (lvle_n lvle_0)))))) ?_
  exact (T_X8_put_b43 C hr3) x1 x3 x4 (0 : Int32) h hyp
def F_X8_put_b3 (N : Nat) : Nat → Int64 → Int32 → PH → Option PH
  | 0, _, _, _ => none
  | n + 1, x1, x3, h =>
    if x3 < 0 then
      some h
    else
      ib (((x1 >>> (x3.toInt64 &&& 63)).toInt32) &&& (255 : Int32)) fun v2 =>
      if v2 = (10 : Int32) then
        F_X8_put_b38 N (F_X8_put_b3 N n) x1 x3 v2 h
      else
        if v2 < (32 : Int32) then
          F_X8_put_b42 N (F_X8_put_b3 N n) x1 x3 v2 h
        else
          if (126 : Int32) < v2 then
            F_X8_put_b42 N (F_X8_put_b3 N n) x1 x3 v2 h
          else
            F_X8_put_b38 N (F_X8_put_b3 N n) x1 x3 v2 h
set_option maxRecDepth 20000 in
set_option maxHeartbeats 4000000 in
theorem T_X8_put_b3 {X : CT} (C : CX X 103 cX8_put 6 RX8 none 0 0) {h0 : PH} {N : Nat} : ∀ (n : Nat) (x1 : Int64) (x3 : Int32) (h : PH), F_X8_put_b3 N n x1 x3 h = some h0 → V X (QV X h0) h 3 [some (.ref 1), some (.long x1), none, some (.int x3), none, none] [] := by
  intro n
  induction n with
  | zero =>
    intro x1 x3 h hyp
    cases hyp
  | succ n ih =>
    intro x1 x3 h hyp
    unfold F_X8_put_b3 at hyp
    refine V_iload_n (pc := 3) C dX8_put_3 rfl ?_
    refine V_if_lt (pc := 4) C dX8_put_4 (tgt := 90) (by decide) (fun q1 => ?_) (fun q1 => ?_)
    · replace hyp := (if_pos q1).symm.trans hyp
      cases hyp
      exact V_vret C dX8_put_90
    · replace hyp := (if_neg q1).symm.trans hyp
      refine V_lload_n (pc := 7) C dX8_put_7 rfl ?_
      refine V_iload_n (pc := 8) C dX8_put_8 rfl ?_
      refine V_lshr (pc := 9) C dX8_put_9 ?_
      refine V_l2i (pc := 10) C dX8_put_10 ?_
      refine V_sipush (pc := 11) C dX8_put_11 (v := 255) (by decide) ?_
      refine V_iand (pc := 14) C dX8_put_14 ?_
      obtain ⟨v2, ev2, hyp⟩ := ib_n hyp
      refine V_topI ev2 ?_
      refine V_istore (pc := 15) C dX8_put_15 (by decide) rfl ?_
      refine V_iload (pc := 17) C dX8_put_17 rfl ?_
      refine V_bipush (pc := 19) C dX8_put_19 (v := 10) (by decide) ?_
      refine V_icmp_eq (pc := 21) C dX8_put_21 (tgt := 38) (by decide) (fun q3 => ?_) (fun q3 => ?_)
      · replace hyp := (if_pos q3).symm.trans hyp
        refine V_weak (lv' := [some (.ref 1), some (.long x1), none, some (.int x3), some (.int v2), none]) (lvle_s (lvle_s (lvle_n (lvle_s (lvle_s (lvle_n lvle_0)))))) ?_
        exact (T_X8_put_b38 C ih) x1 x3 v2 h hyp
      · replace hyp := (if_neg q3).symm.trans hyp
        refine V_iload (pc := 24) C dX8_put_24 rfl ?_
        refine V_bipush (pc := 26) C dX8_put_26 (v := 32) (by decide) ?_
        refine V_icmp_lt (pc := 28) C dX8_put_28 (tgt := 42) (by decide) (fun q4 => ?_) (fun q4 => ?_)
        · replace hyp := (if_pos q4).symm.trans hyp
          refine V_weak (lv' := [some (.ref 1), some (.long x1), none, some (.int x3), some (.int v2), none]) (lvle_s (lvle_s (lvle_n (lvle_s (lvle_s (lvle_n lvle_0)))))) ?_
          exact (T_X8_put_b42 C ih) x1 x3 v2 h hyp
        · replace hyp := (if_neg q4).symm.trans hyp
          refine V_iload (pc := 31) C dX8_put_31 rfl ?_
          refine V_bipush (pc := 33) C dX8_put_33 (v := 126) (by decide) ?_
          refine V_icmp_gt (pc := 35) C dX8_put_35 (tgt := 42) (by decide) (fun q5 => ?_) (fun q5 => ?_)
          · replace hyp := (if_pos q5).symm.trans hyp
            refine V_weak (lv' := [some (.ref 1), some (.long x1), none, some (.int x3), some (.int v2), none]) (lvle_s (lvle_s (lvle_n (lvle_s (lvle_s (lvle_n lvle_0)))))) ?_
            exact (T_X8_put_b42 C ih) x1 x3 v2 h hyp
          · replace hyp := (if_neg q5).symm.trans hyp
            refine V_weak (lv' := [some (.ref 1), some (.long x1), none, some (.int x3), some (.int v2), none]) (lvle_s (lvle_s (lvle_n (lvle_s (lvle_s (lvle_n lvle_0)))))) ?_
            exact (T_X8_put_b38 C ih) x1 x3 v2 h hyp
def F_X8_put (N : Nat) (a1 : Int64) (h : PH) : Option PH :=
  F_X8_put_b3 N N a1 (56 : Int32) h
set_option maxRecDepth 20000 in
set_option maxHeartbeats 4000000 in
theorem M_X8_put (E : EV) {N : Nat} {a1 : Int64} {h h2 : PH} (hyp : F_X8_put N a1 h = some h2) : MV E 103 yX8_put cX8_put 6 none 0 0 [.ref 1, .long a1] h h2 := by
  refine MV.of 3 (by decide) rfl (fun X e1 C => ?_)
  subst e1
  replace C : CX X 103 cX8_put 6 RX8 none 0 0 := C
  show V X _ h 0 [some (.ref 1), some (.long a1), none, none, none, none] []
  unfold F_X8_put at hyp
  refine V_bipush (pc := 0) C dX8_put_0 (v := 56) (by decide) ?_
  refine V_istore_n (pc := 2) C dX8_put_2 (by decide) rfl ?_
  refine V_weak (lv' := [some (.ref 1), some (.long a1), none, some (.int (56 : Int32)), none, none]) (lvle_s (lvle_s (lvle_n (lvle_s (lvle_n (lvle_n lvle_0)))))) ?_
  exact (T_X8_put_b3 C) N a1 (56 : Int32) h hyp
theorem dX9_endOfRun_0 : decode cX9_endOfRun 0 = .ok (.iload_n 1, 1) := by decide +kernel
theorem dX9_endOfRun_1 : decode cX9_endOfRun 1 = .ok (.istore 4, 2) := by decide +kernel
theorem dX9_endOfRun_3 : decode cX9_endOfRun 3 = .ok (.iload 4, 2) := by decide +kernel
theorem dX9_endOfRun_5 : decode cX9_endOfRun 5 = .ok (.aload_n 0, 1) := by decide +kernel
theorem dX9_endOfRun_6 : decode cX9_endOfRun 6 = .ok (.getfield 21, 3) := by decide +kernel
theorem dX9_endOfRun_9 : decode cX9_endOfRun 9 = .ok (.getfield 29, 3) := by decide +kernel
theorem dX9_endOfRun_12 : decode cX9_endOfRun 12 = .ok (.if_icmp .ge 37, 3) := by decide +kernel
theorem dX9_endOfRun_15 : decode cX9_endOfRun 15 = .ok (.aload_n 0, 1) := by decide +kernel
theorem dX9_endOfRun_16 : decode cX9_endOfRun 16 = .ok (.getfield 21, 3) := by decide +kernel
theorem dX9_endOfRun_19 : decode cX9_endOfRun 19 = .ok (.getfield 42, 3) := by decide +kernel
theorem dX9_endOfRun_22 : decode cX9_endOfRun 22 = .ok (.iload 4, 2) := by decide +kernel
theorem dX9_endOfRun_24 : decode cX9_endOfRun 24 = .ok (.caload, 1) := by decide +kernel
theorem dX9_endOfRun_25 : decode cX9_endOfRun 25 = .ok (.iload_n 2, 1) := by decide +kernel
theorem dX9_endOfRun_26 : decode cX9_endOfRun 26 = .ok (.if_icmp .lt 23, 3) := by decide +kernel
theorem dX9_endOfRun_29 : decode cX9_endOfRun 29 = .ok (.aload_n 0, 1) := by decide +kernel
theorem dX9_endOfRun_30 : decode cX9_endOfRun 30 = .ok (.getfield 21, 3) := by decide +kernel
theorem dX9_endOfRun_33 : decode cX9_endOfRun 33 = .ok (.getfield 42, 3) := by decide +kernel
theorem dX9_endOfRun_36 : decode cX9_endOfRun 36 = .ok (.iload 4, 2) := by decide +kernel
theorem dX9_endOfRun_38 : decode cX9_endOfRun 38 = .ok (.caload, 1) := by decide +kernel
theorem dX9_endOfRun_39 : decode cX9_endOfRun 39 = .ok (.iload_n 3, 1) := by decide +kernel
theorem dX9_endOfRun_40 : decode cX9_endOfRun 40 = .ok (.if_icmp .gt 9, 3) := by decide +kernel
theorem dX9_endOfRun_43 : decode cX9_endOfRun 43 = .ok (.iinc 4 1, 3) := by decide +kernel
theorem dX9_endOfRun_46 : decode cX9_endOfRun 46 = .ok (.goto (-43), 3) := by decide +kernel
theorem dX9_endOfRun_49 : decode cX9_endOfRun 49 = .ok (.iload 4, 2) := by decide +kernel
theorem dX9_endOfRun_51 : decode cX9_endOfRun 51 = .ok (.ireturn, 1) := by decide +kernel
def F_X9_endOfRun_b3 (N : Nat) : Nat → Int32 → Int32 → Int32 → PH → Option (Int32 × PH)
  | 0, _, _, _, _ => none
  | n + 1, x2, x3, x4, h =>
    if (h.1 1 1) ≤ x4 then
      some (x4, h)
    else
      if inb x4 1000 = true then
      if (h.1 2 x4.toNatClampNeg) < x2 then
        some (x4, h)
      else
        if inb x4 1000 = true then
        if x3 < (h.1 2 x4.toNatClampNeg) then
          some (x4, h)
        else
          ib (x4 + (1 : Int32)) fun v6 =>
          F_X9_endOfRun_b3 N n x2 x3 v6 h
        else none
      else none
set_option maxRecDepth 20000 in
set_option maxHeartbeats 4000000 in
theorem T_X9_endOfRun_b3 {X : CT} (C : CX X 103 cX9_endOfRun 5 RX9 (some .int) 0 0) {r0 : Int32} {h0 : PH} {N : Nat} : ∀ (n : Nat) (x2 : Int32) (x3 : Int32) (x4 : Int32) (h : PH), F_X9_endOfRun_b3 N n x2 x3 x4 h = some (r0, h0) → V X (QI X r0 h0) h 3 [some (.ref 10), none, some (.int x2), some (.int x3), some (.int x4)] [] := by
  intro n
  induction n with
  | zero =>
    intro x2 x3 x4 h hyp
    cases hyp
  | succ n ih =>
    intro x2 x3 x4 h hyp
    unfold F_X9_endOfRun_b3 at hyp
    refine V_iload (pc := 3) C dX9_endOfRun_3 rfl ?_
    refine V_aload_n (pc := 5) C dX9_endOfRun_5 rfl ?_
    refine V_getR (pc := 6) C dX9_endOfRun_6 lf_X9_21 fk_10_3 ?_
    refine V_getI (pc := 9) C dX9_endOfRun_9 lf_X9_29 fk_1_1 ?_
    refine V_icmp_ge (pc := 12) C dX9_endOfRun_12 (tgt := 49) (by decide) (fun q1 => ?_) (fun q1 => ?_)
    · replace hyp := (if_pos q1).symm.trans hyp
      refine V_iload (pc := 49) C dX9_endOfRun_49 rfl ?_
      cases hyp
      exact V_iret C dX9_endOfRun_51
    · replace hyp := (if_neg q1).symm.trans hyp
      refine V_aload_n (pc := 15) C dX9_endOfRun_15 rfl ?_
      refine V_getR (pc := 16) C dX9_endOfRun_16 lf_X9_21 fk_10_3 ?_
      refine V_getR (pc := 19) C dX9_endOfRun_19 lf_X9_42 fk_1_0 ?_
      refine V_iload (pc := 22) C dX9_endOfRun_22 rfl ?_
      obtain ⟨g2, hyp⟩ := gd_n hyp
      refine V_cald (pc := 24) C dX9_endOfRun_24 ak_2 g2 ?_
      refine V_iload_n (pc := 25) C dX9_endOfRun_25 rfl ?_
      refine V_icmp_lt (pc := 26) C dX9_endOfRun_26 (tgt := 49) (by decide) (fun q3 => ?_) (fun q3 => ?_)
      · replace hyp := (if_pos q3).symm.trans hyp
        refine V_iload (pc := 49) C dX9_endOfRun_49 rfl ?_
        cases hyp
        exact V_iret C dX9_endOfRun_51
      · replace hyp := (if_neg q3).symm.trans hyp
        refine V_aload_n (pc := 29) C dX9_endOfRun_29 rfl ?_
        refine V_getR (pc := 30) C dX9_endOfRun_30 lf_X9_21 fk_10_3 ?_
        refine V_getR (pc := 33) C dX9_endOfRun_33 lf_X9_42 fk_1_0 ?_
        refine V_iload (pc := 36) C dX9_endOfRun_36 rfl ?_
        obtain ⟨g4, hyp⟩ := gd_n hyp
        refine V_cald (pc := 38) C dX9_endOfRun_38 ak_2 g4 ?_
        refine V_iload_n (pc := 39) C dX9_endOfRun_39 rfl ?_
        refine V_icmp_gt (pc := 40) C dX9_endOfRun_40 (tgt := 49) (by decide) (fun q5 => ?_) (fun q5 => ?_)
        · replace hyp := (if_pos q5).symm.trans hyp
          refine V_iload (pc := 49) C dX9_endOfRun_49 rfl ?_
          cases hyp
          exact V_iret C dX9_endOfRun_51
        · replace hyp := (if_neg q5).symm.trans hyp
          obtain ⟨v6, ev6, hyp⟩ := ib_n hyp
          refine V_iinc (pc := 43) C dX9_endOfRun_43 (v := v6) rfl (by rw [ev6]; rfl) (by decide) rfl ?_
          refine V_goto (pc := 46) C dX9_endOfRun_46 (tgt := 3) (by decide) ?_
          refine V_weak (lv' := [some (.ref 10), none, some (.int x2), some (.int x3), some (.int v6)]) (lvle_s (lvle_n (lvle_s (lvle_s (lvle_s lvle_0))))) ?_
          exact ih x2 x3 v6 h hyp
def F_X9_endOfRun (N : Nat) (a1 : Int32) (a2 : Int32) (a3 : Int32) (h : PH) : Option (Int32 × PH) :=
  F_X9_endOfRun_b3 N N a2 a3 a1 h
set_option maxRecDepth 20000 in
set_option maxHeartbeats 4000000 in
theorem M_X9_endOfRun (E : EV) {N : Nat} {a1 : Int32} {a2 : Int32} {a3 : Int32} {r : Int32} {h h2 : PH} (hyp : F_X9_endOfRun N a1 a2 a3 h = some (r, h2)) : MI E 103 yX9_endOfRun cX9_endOfRun 5 (some .int) 0 0 [.ref 10, .int a1, .int a2, .int a3] h r h2 := by
  refine MI.of 1 (by decide) rfl (fun X e1 C => ?_)
  subst e1
  replace C : CX X 103 cX9_endOfRun 5 RX9 (some .int) 0 0 := C
  show V X _ h 0 [some (.ref 10), some (.int a1), some (.int a2), some (.int a3), none] []
  unfold F_X9_endOfRun at hyp
  refine V_iload_n (pc := 0) C dX9_endOfRun_0 rfl ?_
  refine V_istore (pc := 1) C dX9_endOfRun_1 (by decide) rfl ?_
  refine V_weak (lv' := [some (.ref 10), none, some (.int a2), some (.int a3), some (.int a1)]) (lvle_s (lvle_n (lvle_s (lvle_s (lvle_s lvle_0))))) ?_
  exact (T_X9_endOfRun_b3 C) N a2 a3 a1 h hyp
theorem dX9_add_0 : decode cX9_add 0 = .ok (.aload_n 0, 1) := by decide +kernel
theorem dX9_add_1 : decode cX9_add 1 = .ok (.getfield 25, 3) := by decide +kernel
theorem dX9_add_4 : decode cX9_add 4 = .ok (.aload_n 0, 1) := by decide +kernel
theorem dX9_add_5 : decode cX9_add 5 = .ok (.getfield 9, 3) := by decide +kernel
theorem dX9_add_8 : decode cX9_add 8 = .ok (.arraylength, 1) := by decide +kernel
theorem dX9_add_9 : decode cX9_add 9 = .ok (.if_icmp .ge 43, 3) := by decide +kernel
theorem dX9_add_12 : decode cX9_add 12 = .ok (.aload_n 0, 1) := by decide +kernel
theorem dX9_add_13 : decode cX9_add 13 = .ok (.getfield 9, 3) := by decide +kernel
theorem dX9_add_16 : decode cX9_add 16 = .ok (.aload_n 0, 1) := by decide +kernel
theorem dX9_add_17 : decode cX9_add 17 = .ok (.getfield 25, 3) := by decide +kernel
theorem dX9_add_20 : decode cX9_add 20 = .ok (.iload_n 1, 1) := by decide +kernel
theorem dX9_add_21 : decode cX9_add 21 = .ok (.iastore, 1) := by decide +kernel
theorem dX9_add_22 : decode cX9_add 22 = .ok (.aload_n 0, 1) := by decide +kernel
theorem dX9_add_23 : decode cX9_add 23 = .ok (.getfield 15, 3) := by decide +kernel
theorem dX9_add_26 : decode cX9_add 26 = .ok (.aload_n 0, 1) := by decide +kernel
theorem dX9_add_27 : decode cX9_add 27 = .ok (.getfield 25, 3) := by decide +kernel
theorem dX9_add_30 : decode cX9_add 30 = .ok (.iload_n 2, 1) := by decide +kernel
theorem dX9_add_31 : decode cX9_add 31 = .ok (.iastore, 1) := by decide +kernel
theorem dX9_add_32 : decode cX9_add 32 = .ok (.aload_n 0, 1) := by decide +kernel
theorem dX9_add_33 : decode cX9_add 33 = .ok (.getfield 18, 3) := by decide +kernel
theorem dX9_add_36 : decode cX9_add 36 = .ok (.aload_n 0, 1) := by decide +kernel
theorem dX9_add_37 : decode cX9_add 37 = .ok (.getfield 25, 3) := by decide +kernel
theorem dX9_add_40 : decode cX9_add 40 = .ok (.iload_n 3, 1) := by decide +kernel
theorem dX9_add_41 : decode cX9_add 41 = .ok (.iastore, 1) := by decide +kernel
theorem dX9_add_42 : decode cX9_add 42 = .ok (.aload_n 0, 1) := by decide +kernel
theorem dX9_add_43 : decode cX9_add 43 = .ok (.dup, 1) := by decide +kernel
theorem dX9_add_44 : decode cX9_add 44 = .ok (.getfield 25, 3) := by decide +kernel
theorem dX9_add_47 : decode cX9_add 47 = .ok (.iconst 1, 1) := by decide +kernel
theorem dX9_add_48 : decode cX9_add 48 = .ok (.iadd, 1) := by decide +kernel
theorem dX9_add_49 : decode cX9_add 49 = .ok (.putfield 25, 3) := by decide +kernel
theorem dX9_add_52 : decode cX9_add 52 = .ok (.return_, 1) := by decide +kernel
def F_X9_add (a1 : Int32) (a2 : Int32) (a3 : Int32) (h : PH) : Option PH :=
  if (1001 : Int32) ≤ (h.1 10 4) then
    some h
  else
    if inb (h.1 10 4) 1001 = true then
    hb (hs h 11 (h.1 10 4).toNatClampNeg a1) fun h3 =>
    if inb (h3.1 10 4) 1001 = true then
    hb (hs h3 12 (h3.1 10 4).toNatClampNeg a2) fun h5 =>
    if inb (h5.1 10 4) 1001 = true then
    hb (hs h5 13 (h5.1 10 4).toNatClampNeg a3) fun h7 =>
    hb (hs h7 10 4 ((h7.1 10 4) + (1 : Int32))) fun h8 =>
    some h8
    else none
    else none
    else none
set_option maxRecDepth 20000 in
set_option maxHeartbeats 4000000 in
theorem M_X9_add (E : EV) {a1 : Int32} {a2 : Int32} {a3 : Int32} {h h2 : PH} (hyp : F_X9_add a1 a2 a3 h = some h2) : MV E 103 yX9_add cX9_add 4 none 0 0 [.ref 10, .int a1, .int a2, .int a3] h h2 := by
  refine MV.of 0 (by decide) rfl (fun X e1 C => ?_)
  subst e1
  replace C : CX X 103 cX9_add 4 RX9 none 0 0 := C
  show V X _ h 0 [some (.ref 10), some (.int a1), some (.int a2), some (.int a3)] []
  unfold F_X9_add at hyp
  refine V_aload_n (pc := 0) C dX9_add_0 rfl ?_
  refine V_getI (pc := 1) C dX9_add_1 lf_X9_25 fk_10_4 ?_
  refine V_aload_n (pc := 4) C dX9_add_4 rfl ?_
  refine V_getR (pc := 5) C dX9_add_5 lf_X9_9 fk_10_0 ?_
  refine V_alen (pc := 8) C dX9_add_8 ak_11 (by decide) (v := 1001) rfl ?_
  refine V_icmp_ge (pc := 9) C dX9_add_9 (tgt := 52) (by decide) (fun q1 => ?_) (fun q1 => ?_)
  · replace hyp := (if_pos q1).symm.trans hyp
    cases hyp
    exact V_vret C dX9_add_52
  · replace hyp := (if_neg q1).symm.trans hyp
    refine V_aload_n (pc := 12) C dX9_add_12 rfl ?_
    refine V_getR (pc := 13) C dX9_add_13 lf_X9_9 fk_10_0 ?_
    refine V_aload_n (pc := 16) C dX9_add_16 rfl ?_
    refine V_getI (pc := 17) C dX9_add_17 lf_X9_25 fk_10_4 ?_
    refine V_iload_n (pc := 20) C dX9_add_20 rfl ?_
    obtain ⟨g2, hyp⟩ := gd_n hyp
    obtain ⟨h3, eh3, hyp⟩ := hb_n hyp
    refine V_iast (pc := 21) C dX9_add_21 ak_11 g2 eh3 ?_
    refine V_aload_n (pc := 22) C dX9_add_22 rfl ?_
    refine V_getR (pc := 23) C dX9_add_23 lf_X9_15 fk_10_1 ?_
    refine V_aload_n (pc := 26) C dX9_add_26 rfl ?_
    refine V_getI (pc := 27) C dX9_add_27 lf_X9_25 fk_10_4 ?_
    refine V_iload_n (pc := 30) C dX9_add_30 rfl ?_
    obtain ⟨g4, hyp⟩ := gd_n hyp
    obtain ⟨h5, eh5, hyp⟩ := hb_n hyp
    refine V_iast (pc := 31) C dX9_add_31 ak_12 g4 eh5 ?_
    refine V_aload_n (pc := 32) C dX9_add_32 rfl ?_
    refine V_getR (pc := 33) C dX9_add_33 lf_X9_18 fk_10_2 ?_
    refine V_aload_n (pc := 36) C dX9_add_36 rfl ?_
    refine V_getI (pc := 37) C dX9_add_37 lf_X9_25 fk_10_4 ?_
    refine V_iload_n (pc := 40) C dX9_add_40 rfl ?_
    obtain ⟨g6, hyp⟩ := gd_n hyp
    obtain ⟨h7, eh7, hyp⟩ := hb_n hyp
    refine V_iast (pc := 41) C dX9_add_41 ak_13 g6 eh7 ?_
    refine V_aload_n (pc := 42) C dX9_add_42 rfl ?_
    refine V_dup (pc := 43) C dX9_add_43 rfl ?_
    refine V_getI (pc := 44) C dX9_add_44 lf_X9_25 fk_10_4 ?_
    refine V_iconst (pc := 47) C dX9_add_47 (v := 1) (by decide) ?_
    refine V_iadd (pc := 48) C dX9_add_48 ?_
    obtain ⟨h8, eh8, hyp⟩ := hb_n hyp
    refine V_putI (pc := 49) C dX9_add_49 lf_X9_25 fk_10_4 rfl rfl eh8 ?_
    cases hyp
    exact V_vret C dX9_add_52
theorem dX9_wordKind_0 : decode cX9_wordKind 0 = .ok (.bipush 12, 2) := by decide +kernel
theorem dX9_wordKind_2 : decode cX9_wordKind 2 = .ok (.istore_n 3, 1) := by decide +kernel
theorem dX9_wordKind_3 : decode cX9_wordKind 3 = .ok (.iload_n 1, 1) := by decide +kernel
theorem dX9_wordKind_4 : decode cX9_wordKind 4 = .ok (.istore 4, 2) := by decide +kernel
theorem dX9_wordKind_6 : decode cX9_wordKind 6 = .ok (.iconst 1, 1) := by decide +kernel
theorem dX9_wordKind_7 : decode cX9_wordKind 7 = .ok (.istore 5, 2) := by decide +kernel
theorem dX9_wordKind_9 : decode cX9_wordKind 9 = .ok (.iconst 0, 1) := by decide +kernel
theorem dX9_wordKind_10 : decode cX9_wordKind 10 = .ok (.istore 6, 2) := by decide +kernel
theorem dX9_wordKind_12 : decode cX9_wordKind 12 = .ok (.iload 6, 2) := by decide +kernel
theorem dX9_wordKind_14 : decode cX9_wordKind 14 = .ok (.ldc 67, 2) := by decide +kernel
theorem dX9_wordKind_16 : decode cX9_wordKind 16 = .ok (.invokevirtual 69, 3) := by decide +kernel
theorem dX9_wordKind_19 : decode cX9_wordKind 19 = .ok (.if_icmp .ge 85, 3) := by decide +kernel
theorem dX9_wordKind_22 : decode cX9_wordKind 22 = .ok (.ldc 67, 2) := by decide +kernel
theorem dX9_wordKind_24 : decode cX9_wordKind 24 = .ok (.iload 6, 2) := by decide +kernel
theorem dX9_wordKind_26 : decode cX9_wordKind 26 = .ok (.invokevirtual 72, 3) := by decide +kernel
theorem dX9_wordKind_29 : decode cX9_wordKind 29 = .ok (.istore 7, 2) := by decide +kernel
theorem dX9_wordKind_31 : decode cX9_wordKind 31 = .ok (.iload 7, 2) := by decide +kernel
theorem dX9_wordKind_33 : decode cX9_wordKind 33 = .ok (.bipush 32, 2) := by decide +kernel
theorem dX9_wordKind_35 : decode cX9_wordKind 35 = .ok (.if_icmp .ne 28, 3) := by decide +kernel
theorem dX9_wordKind_38 : decode cX9_wordKind 38 = .ok (.iload 5, 2) := by decide +kernel
theorem dX9_wordKind_40 : decode cX9_wordKind 40 = .ok (.ifCond .eq 11, 3) := by decide +kernel
theorem dX9_wordKind_43 : decode cX9_wordKind 43 = .ok (.iload 4, 2) := by decide +kernel
theorem dX9_wordKind_45 : decode cX9_wordKind 45 = .ok (.iload_n 2, 1) := by decide +kernel
theorem dX9_wordKind_46 : decode cX9_wordKind 46 = .ok (.if_icmp .ne 5, 3) := by decide +kernel
theorem dX9_wordKind_49 : decode cX9_wordKind 49 = .ok (.iload_n 3, 1) := by decide +kernel
theorem dX9_wordKind_50 : decode cX9_wordKind 50 = .ok (.ireturn, 1) := by decide +kernel
theorem dX9_wordKind_51 : decode cX9_wordKind 51 = .ok (.iinc 3 1, 3) := by decide +kernel
theorem dX9_wordKind_54 : decode cX9_wordKind 54 = .ok (.iload_n 1, 1) := by decide +kernel
theorem dX9_wordKind_55 : decode cX9_wordKind 55 = .ok (.istore 4, 2) := by decide +kernel
theorem dX9_wordKind_57 : decode cX9_wordKind 57 = .ok (.iconst 1, 1) := by decide +kernel
theorem dX9_wordKind_58 : decode cX9_wordKind 58 = .ok (.istore 5, 2) := by decide +kernel
theorem dX9_wordKind_60 : decode cX9_wordKind 60 = .ok (.goto 38, 3) := by decide +kernel
theorem dX9_wordKind_63 : decode cX9_wordKind 63 = .ok (.iload 5, 2) := by decide +kernel
theorem dX9_wordKind_65 : decode cX9_wordKind 65 = .ok (.ifCond .eq 30, 3) := by decide +kernel
theorem dX9_wordKind_68 : decode cX9_wordKind 68 = .ok (.iload 4, 2) := by decide +kernel
theorem dX9_wordKind_70 : decode cX9_wordKind 70 = .ok (.iload_n 2, 1) := by decide +kernel
theorem dX9_wordKind_71 : decode cX9_wordKind 71 = .ok (.if_icmp .ge 24, 3) := by decide +kernel
theorem dX9_wordKind_74 : decode cX9_wordKind 74 = .ok (.aload_n 0, 1) := by decide +kernel
theorem dX9_wordKind_75 : decode cX9_wordKind 75 = .ok (.getfield 21, 3) := by decide +kernel
theorem dX9_wordKind_78 : decode cX9_wordKind 78 = .ok (.getfield 42, 3) := by decide +kernel
theorem dX9_wordKind_81 : decode cX9_wordKind 81 = .ok (.iload 4, 2) := by decide +kernel
theorem dX9_wordKind_83 : decode cX9_wordKind 83 = .ok (.caload, 1) := by decide +kernel
theorem dX9_wordKind_84 : decode cX9_wordKind 84 = .ok (.iload 7, 2) := by decide +kernel
theorem dX9_wordKind_86 : decode cX9_wordKind 86 = .ok (.if_icmp .ne 9, 3) := by decide +kernel
theorem dX9_wordKind_89 : decode cX9_wordKind 89 = .ok (.iinc 4 1, 3) := by decide +kernel
theorem dX9_wordKind_92 : decode cX9_wordKind 92 = .ok (.goto 6, 3) := by decide +kernel
theorem dX9_wordKind_95 : decode cX9_wordKind 95 = .ok (.iconst 0, 1) := by decide +kernel
theorem dX9_wordKind_96 : decode cX9_wordKind 96 = .ok (.istore 5, 2) := by decide +kernel
theorem dX9_wordKind_98 : decode cX9_wordKind 98 = .ok (.iinc 6 1, 3) := by decide +kernel
theorem dX9_wordKind_101 : decode cX9_wordKind 101 = .ok (.goto (-89), 3) := by decide +kernel
theorem dX9_wordKind_104 : decode cX9_wordKind 104 = .ok (.iconst 1, 1) := by decide +kernel
theorem dX9_wordKind_105 : decode cX9_wordKind 105 = .ok (.ireturn, 1) := by decide +kernel
def F_X9_wordKind_b98 (N : Nat) (rc12 : Int32 → Int32 → Int32 → Int32 → Int32 → Int32 → PH → Option (Int32 × PH)) (x1 : Int32) (x2 : Int32) (x3 : Int32) (x4 : Int32) (x5 : Int32) (x6 : Int32) (h : PH) : Option (Int32 × PH) :=
  ib (x6 + (1 : Int32)) fun v1 =>
  rc12 x1 x2 x3 x4 x5 v1 h
set_option maxRecDepth 20000 in
set_option maxHeartbeats 4000000 in
theorem T_X9_wordKind_b98 {X : CT} (C : CX X 103 cX9_wordKind 8 RX9 (some .int) 4 85) {r0 : Int32} {h0 : PH} {N : Nat} {rc12 : Int32 → Int32 → Int32 → Int32 → Int32 → Int32 → PH → Option (Int32 × PH)} (hr12 : ∀ (x1 : Int32) (x2 : Int32) (x3 : Int32) (x4 : Int32) (x5 : Int32) (x6 : Int32) (h : PH), rc12 x1 x2 x3 x4 x5 x6 h = some (r0, h0) → V X (QI X r0 h0) h 12 [some (.ref 10), some (.int x1), some (.int x2), some (.int x3), some (.int x4), some (.int x5), some (.int x6), none] []) : ∀ (x1 : Int32) (x2 : Int32) (x3 : Int32) (x4 : Int32) (x5 : Int32) (x6 : Int32) (h : PH), F_X9_wordKind_b98 N rc12 x1 x2 x3 x4 x5 x6 h = some (r0, h0) → V X (QI X r0 h0) h 98 [some (.ref 10), some (.int x1), some (.int x2), some (.int x3), some (.int x4), some (.int x5), some (.int x6), none] [] := by
  intro x1 x2 x3 x4 x5 x6 h hyp
  unfold F_X9_wordKind_b98 at hyp
  obtain ⟨v1, ev1, hyp⟩ := ib_n hyp
  refine V_iinc (pc := 98) C dX9_wordKind_98 (v := v1) rfl (by rw [ev1]; rfl) (by decide) rfl ?_
  refine V_goto (pc := 101) C dX9_wordKind_101 (tgt := 12) (by decide) ?_
  refine V_weak (lv' := [some (.ref 10), some (.int x1), some (.int x2), some (.int x3), some (.int x4), some (.int x5), some (.int v1), none]) (lvle_s (lvle_s (lvle_s (lvle_s (lvle_s (lvle_s (lvle_s (lvle_n lvle_0)))))))) ?_
  exact hr12 x1 x2 x3 x4 x5 v1 h hyp
def F_X9_wordKind_b51 (N : Nat) (rc12 : Int32 → Int32 → Int32 → Int32 → Int32 → Int32 → PH → Option (Int32 × PH)) (x1 : Int32) (x2 : Int32) (x3 : Int32) (x6 : Int32) (h : PH) : Option (Int32 × PH) :=
  ib (x3 + (1 : Int32)) fun v1 =>
  F_X9_wordKind_b98 N rc12 x1 x2 v1 x1 (1 : Int32) x6 h
set_option maxRecDepth 20000 in
set_option maxHeartbeats 4000000 in
theorem T_X9_wordKind_b51 {X : CT} (C : CX X 103 cX9_wordKind 8 RX9 (some .int) 4 85) {r0 : Int32} {h0 : PH} {N : Nat} {rc12 : Int32 → Int32 → Int32 → Int32 → Int32 → Int32 → PH → Option (Int32 × PH)} (hr12 : ∀ (x1 : Int32) (x2 : Int32) (x3 : Int32) (x4 : Int32) (x5 : Int32) (x6 : Int32) (h : PH), rc12 x1 x2 x3 x4 x5 x6 h = some (r0, h0) → V X (QI X r0 h0) h 12 [some (.ref 10), some (.int x1), some (.int x2), some (.int x3), some (.int x4), some (.int x5), some (.int x6), none] []) : ∀ (x1 : Int32) (x2 : Int32) (x3 : Int32) (x6 : Int32) (h : PH), F_X9_wordKind_b51 N rc12 x1 x2 x3 x6 h = some (r0, h0) → V X (QI X r0 h0) h 51 [some (.ref 10), some (.int x1), some (.int x2), some (.int x3), none, none, some (.int x6), none] [] := by
  intro x1 x2 x3 x6 h hyp
  unfold F_X9_wordKind_b51 at hyp
  obtain ⟨v1, ev1, hyp⟩ := ib_n hyp
  refine V_iinc (pc := 51) C dX9_wordKind_51 (v := v1) rfl (by rw [ev1]; rfl) (by decide) rfl ?_
  refine V_iload_n (pc := 54) C dX9_wordKind_54 rfl ?_
  refine V_istore (pc := 55) C dX9_wordKind_55 (by decide) rfl ?_
  refine V_iconst (pc := 57) C dX9_wordKind_57 (v := 1) (by decide) ?_
  refine V_istore (pc := 58) C dX9_wordKind_58 (by decide) rfl ?_
  refine V_goto (pc := 60) C dX9_wordKind_60 (tgt := 98) (by decide) ?_
  refine V_weak (lv' := [some (.ref 10), some (.int x1), some (.int x2), some (.int v1), some (.int x1), some (.int (1 : Int32)), some (.int x6), none]) (lvle_s (lvle_s (lvle_s (lvle_s (lvle_s (lvle_s (lvle_s (lvle_n lvle_0)))))))) ?_
  exact (T_X9_wordKind_b98 C hr12) x1 x2 v1 x1 (1 : Int32) x6 h hyp
def F_X9_wordKind_b95 (N : Nat) (rc12 : Int32 → Int32 → Int32 → Int32 → Int32 → Int32 → PH → Option (Int32 × PH)) (x1 : Int32) (x2 : Int32) (x3 : Int32) (x4 : Int32) (x6 : Int32) (h : PH) : Option (Int32 × PH) :=
  F_X9_wordKind_b98 N rc12 x1 x2 x3 x4 (0 : Int32) x6 h
set_option maxRecDepth 20000 in
set_option maxHeartbeats 4000000 in
theorem T_X9_wordKind_b95 {X : CT} (C : CX X 103 cX9_wordKind 8 RX9 (some .int) 4 85) {r0 : Int32} {h0 : PH} {N : Nat} {rc12 : Int32 → Int32 → Int32 → Int32 → Int32 → Int32 → PH → Option (Int32 × PH)} (hr12 : ∀ (x1 : Int32) (x2 : Int32) (x3 : Int32) (x4 : Int32) (x5 : Int32) (x6 : Int32) (h : PH), rc12 x1 x2 x3 x4 x5 x6 h = some (r0, h0) → V X (QI X r0 h0) h 12 [some (.ref 10), some (.int x1), some (.int x2), some (.int x3), some (.int x4), some (.int x5), some (.int x6), none] []) : ∀ (x1 : Int32) (x2 : Int32) (x3 : Int32) (x4 : Int32) (x6 : Int32) (h : PH), F_X9_wordKind_b95 N rc12 x1 x2 x3 x4 x6 h = some (r0, h0) → V X (QI X r0 h0) h 95 [some (.ref 10), some (.int x1), some (.int x2), some (.int x3), some (.int x4), none, some (.int x6), none] [] := by
  intro x1 x2 x3 x4 x6 h hyp
  unfold F_X9_wordKind_b95 at hyp
  refine V_iconst (pc := 95) C dX9_wordKind_95 (v := 0) (by decide) ?_
  refine V_istore (pc := 96) C dX9_wordKind_96 (by decide) rfl ?_
  refine V_weak (lv' := [some (.ref 10), some (.int x1), some (.int x2), some (.int x3), some (.int x4), some (.int (0 : Int32)), some (.int x6), none]) (lvle_s (lvle_s (lvle_s (lvle_s (lvle_s (lvle_s (lvle_s (lvle_n lvle_0)))))))) ?_
  exact (T_X9_wordKind_b98 C hr12) x1 x2 x3 x4 (0 : Int32) x6 h hyp
def F_X9_wordKind_b12 (N : Nat) : Nat → Int32 → Int32 → Int32 → Int32 → Int32 → Int32 → PH → Option (Int32 × PH)
  | 0, _, _, _, _, _, _, _ => none
  | n + 1, x1, x2, x3, x4, x5, x6, h =>
    bI (F_J0_length_8abf5 1 h) fun r1 h2 =>
    if r1 ≤ x6 then
      some ((1 : Int32), h2)
    else
      bI (F_J0_charAt_5068e 1 x6 h2) fun r4 h5 =>
      if r4 = (32 : Int32) then
        if x5 = 0 then
          F_X9_wordKind_b51 N (F_X9_wordKind_b12 N n) x1 x2 x3 x6 h5
        else
          if x4 = x2 then
            some (x3, h5)
          else
            F_X9_wordKind_b51 N (F_X9_wordKind_b12 N n) x1 x2 x3 x6 h5
      else
        if x5 = 0 then
          F_X9_wordKind_b95 N (F_X9_wordKind_b12 N n) x1 x2 x3 x4 x6 h5
        else
          if x2 ≤ x4 then
            F_X9_wordKind_b95 N (F_X9_wordKind_b12 N n) x1 x2 x3 x4 x6 h5
          else
            if inb x4 1000 = true then
            if (h5.1 2 x4.toNatClampNeg) = r4 then
              ib (x4 + (1 : Int32)) fun v11 =>
              F_X9_wordKind_b98 N (F_X9_wordKind_b12 N n) x1 x2 x3 v11 x5 x6 h5
            else
              F_X9_wordKind_b95 N (F_X9_wordKind_b12 N n) x1 x2 x3 x4 x6 h5
            else none
set_option maxRecDepth 20000 in
set_option maxHeartbeats 4000000 in
theorem T_X9_wordKind_b12 {X : CT} (C : CX X 103 cX9_wordKind 8 RX9 (some .int) 4 85) {r0 : Int32} {h0 : PH} {N : Nat} : ∀ (n : Nat) (x1 : Int32) (x2 : Int32) (x3 : Int32) (x4 : Int32) (x5 : Int32) (x6 : Int32) (h : PH), F_X9_wordKind_b12 N n x1 x2 x3 x4 x5 x6 h = some (r0, h0) → V X (QI X r0 h0) h 12 [some (.ref 10), some (.int x1), some (.int x2), some (.int x3), some (.int x4), some (.int x5), some (.int x6), none] [] := by
  intro n
  induction n with
  | zero =>
    intro x1 x2 x3 x4 x5 x6 h hyp
    cases hyp
  | succ n ih =>
    intro x1 x2 x3 x4 x5 x6 h hyp
    unfold F_X9_wordKind_b12 at hyp
    refine V_iload (pc := 12) C dX9_wordKind_12 rfl ?_
    refine V_ldW (pc := 14) C dX9_wordKind_14 ?_
    obtain ⟨r1, h2, eh2, hyp⟩ := bI_n hyp
    refine V_scallI (pc := 16) C (si := 1) (by decide) dX9_wordKind_16 lm_X9_69 mk_J0_length_8abf5 rfl (M_J0_length_8abf5 _ (by decide) eh2) rfl pd_J0_length_8abf5 (by decide) (by decide) (by decide) (As := []) (rest := [.int x6]) rfl (Nat.le_of_ble_eq_true rfl) ?_
    refine V_icmp_ge (pc := 19) C dX9_wordKind_19 (tgt := 104) (by decide) (fun q3 => ?_) (fun q3 => ?_)
    · replace hyp := (if_pos q3).symm.trans hyp
      refine V_iconst (pc := 104) C dX9_wordKind_104 (v := 1) (by decide) ?_
      cases hyp
      exact V_iret C dX9_wordKind_105
    · replace hyp := (if_neg q3).symm.trans hyp
      refine V_ldW (pc := 22) C dX9_wordKind_22 ?_
      refine V_iload (pc := 24) C dX9_wordKind_24 rfl ?_
      obtain ⟨r4, h5, eh5, hyp⟩ := bI_n hyp
      refine V_scallI (pc := 26) C (si := 1) (by decide) dX9_wordKind_26 lm_X9_72 mk_J0_charAt_5068e rfl (M_J0_charAt_5068e _ (by decide) eh5) rfl pd_J0_charAt_5068e (by decide) (by decide) (by decide) (As := [.int x6]) (rest := []) rfl (Nat.le_of_ble_eq_true rfl) ?_
      refine V_istore (pc := 29) C dX9_wordKind_29 (by decide) rfl ?_
      refine V_iload (pc := 31) C dX9_wordKind_31 rfl ?_
      refine V_bipush (pc := 33) C dX9_wordKind_33 (v := 32) (by decide) ?_
      refine V_icmp_ne (pc := 35) C dX9_wordKind_35 (tgt := 63) (by decide) (fun q6 => ?_) (fun q6 => ?_)
      · replace hyp := (if_neg q6).symm.trans hyp
        refine V_iload (pc := 63) C dX9_wordKind_63 rfl ?_
        refine V_if_eq (pc := 65) C dX9_wordKind_65 (tgt := 95) (by decide) (fun q7 => ?_) (fun q7 => ?_)
        · replace hyp := (if_pos q7).symm.trans hyp
          refine V_weak (lv' := [some (.ref 10), some (.int x1), some (.int x2), some (.int x3), some (.int x4), none, some (.int x6), none]) (lvle_s (lvle_s (lvle_s (lvle_s (lvle_s (lvle_n (lvle_s (lvle_n lvle_0)))))))) ?_
          exact (T_X9_wordKind_b95 C ih) x1 x2 x3 x4 x6 h5 hyp
        · replace hyp := (if_neg q7).symm.trans hyp
          refine V_iload (pc := 68) C dX9_wordKind_68 rfl ?_
          refine V_iload_n (pc := 70) C dX9_wordKind_70 rfl ?_
          refine V_icmp_ge (pc := 71) C dX9_wordKind_71 (tgt := 95) (by decide) (fun q8 => ?_) (fun q8 => ?_)
          · replace hyp := (if_pos q8).symm.trans hyp
            refine V_weak (lv' := [some (.ref 10), some (.int x1), some (.int x2), some (.int x3), some (.int x4), none, some (.int x6), none]) (lvle_s (lvle_s (lvle_s (lvle_s (lvle_s (lvle_n (lvle_s (lvle_n lvle_0)))))))) ?_
            exact (T_X9_wordKind_b95 C ih) x1 x2 x3 x4 x6 h5 hyp
          · replace hyp := (if_neg q8).symm.trans hyp
            refine V_aload_n (pc := 74) C dX9_wordKind_74 rfl ?_
            refine V_getR (pc := 75) C dX9_wordKind_75 lf_X9_21 fk_10_3 ?_
            refine V_getR (pc := 78) C dX9_wordKind_78 lf_X9_42 fk_1_0 ?_
            refine V_iload (pc := 81) C dX9_wordKind_81 rfl ?_
            obtain ⟨g9, hyp⟩ := gd_n hyp
            refine V_cald (pc := 83) C dX9_wordKind_83 ak_2 g9 ?_
            refine V_iload (pc := 84) C dX9_wordKind_84 rfl ?_
            refine V_icmp_ne (pc := 86) C dX9_wordKind_86 (tgt := 95) (by decide) (fun q10 => ?_) (fun q10 => ?_)
            · replace hyp := (if_neg q10).symm.trans hyp
              refine V_weak (lv' := [some (.ref 10), some (.int x1), some (.int x2), some (.int x3), some (.int x4), none, some (.int x6), none]) (lvle_s (lvle_s (lvle_s (lvle_s (lvle_s (lvle_n (lvle_s (lvle_n lvle_0)))))))) ?_
              exact (T_X9_wordKind_b95 C ih) x1 x2 x3 x4 x6 h5 hyp
            · replace hyp := (if_pos q10).symm.trans hyp
              obtain ⟨v11, ev11, hyp⟩ := ib_n hyp
              refine V_iinc (pc := 89) C dX9_wordKind_89 (v := v11) rfl (by rw [ev11]; rfl) (by decide) rfl ?_
              refine V_goto (pc := 92) C dX9_wordKind_92 (tgt := 98) (by decide) ?_
              refine V_weak (lv' := [some (.ref 10), some (.int x1), some (.int x2), some (.int x3), some (.int v11), some (.int x5), some (.int x6), none]) (lvle_s (lvle_s (lvle_s (lvle_s (lvle_s (lvle_s (lvle_s (lvle_n lvle_0)))))))) ?_
              exact (T_X9_wordKind_b98 C ih) x1 x2 x3 v11 x5 x6 h5 hyp
      · replace hyp := (if_pos q6).symm.trans hyp
        refine V_iload (pc := 38) C dX9_wordKind_38 rfl ?_
        refine V_if_eq (pc := 40) C dX9_wordKind_40 (tgt := 51) (by decide) (fun q12 => ?_) (fun q12 => ?_)
        · replace hyp := (if_pos q12).symm.trans hyp
          refine V_weak (lv' := [some (.ref 10), some (.int x1), some (.int x2), some (.int x3), none, none, some (.int x6), none]) (lvle_s (lvle_s (lvle_s (lvle_s (lvle_n (lvle_n (lvle_s (lvle_n lvle_0)))))))) ?_
          exact (T_X9_wordKind_b51 C ih) x1 x2 x3 x6 h5 hyp
        · replace hyp := (if_neg q12).symm.trans hyp
          refine V_iload (pc := 43) C dX9_wordKind_43 rfl ?_
          refine V_iload_n (pc := 45) C dX9_wordKind_45 rfl ?_
          refine V_icmp_ne (pc := 46) C dX9_wordKind_46 (tgt := 51) (by decide) (fun q13 => ?_) (fun q13 => ?_)
          · replace hyp := (if_neg q13).symm.trans hyp
            refine V_weak (lv' := [some (.ref 10), some (.int x1), some (.int x2), some (.int x3), none, none, some (.int x6), none]) (lvle_s (lvle_s (lvle_s (lvle_s (lvle_n (lvle_n (lvle_s (lvle_n lvle_0)))))))) ?_
            exact (T_X9_wordKind_b51 C ih) x1 x2 x3 x6 h5 hyp
          · replace hyp := (if_pos q13).symm.trans hyp
            refine V_iload_n (pc := 49) C dX9_wordKind_49 rfl ?_
            cases hyp
            exact V_iret C dX9_wordKind_50
def F_X9_wordKind (N : Nat) (a1 : Int32) (a2 : Int32) (h : PH) : Option (Int32 × PH) :=
  F_X9_wordKind_b12 N N a1 a2 (12 : Int32) a1 (1 : Int32) (0 : Int32) h
set_option maxRecDepth 20000 in
set_option maxHeartbeats 4000000 in
theorem M_X9_wordKind (E : EV) {N : Nat} {a1 : Int32} {a2 : Int32} {r : Int32} {h h2 : PH} (hyp : F_X9_wordKind N a1 a2 h = some (r, h2)) : MI E 103 yX9_wordKind cX9_wordKind 8 (some .int) 4 85 [.ref 10, .int a1, .int a2] h r h2 := by
  refine MI.of 5 (by decide) rfl (fun X e1 C => ?_)
  subst e1
  replace C : CX X 103 cX9_wordKind 8 RX9 (some .int) 4 85 := C
  show V X _ h 0 [some (.ref 10), some (.int a1), some (.int a2), none, none, none, none, none] []
  unfold F_X9_wordKind at hyp
  refine V_bipush (pc := 0) C dX9_wordKind_0 (v := 12) (by decide) ?_
  refine V_istore_n (pc := 2) C dX9_wordKind_2 (by decide) rfl ?_
  refine V_iload_n (pc := 3) C dX9_wordKind_3 rfl ?_
  refine V_istore (pc := 4) C dX9_wordKind_4 (by decide) rfl ?_
  refine V_iconst (pc := 6) C dX9_wordKind_6 (v := 1) (by decide) ?_
  refine V_istore (pc := 7) C dX9_wordKind_7 (by decide) rfl ?_
  refine V_iconst (pc := 9) C dX9_wordKind_9 (v := 0) (by decide) ?_
  refine V_istore (pc := 10) C dX9_wordKind_10 (by decide) rfl ?_
  refine V_weak (lv' := [some (.ref 10), some (.int a1), some (.int a2), some (.int (12 : Int32)), some (.int a1), some (.int (1 : Int32)), some (.int (0 : Int32)), none]) (lvle_s (lvle_s (lvle_s (lvle_s (lvle_s (lvle_s (lvle_s (lvle_n lvle_0)))))))) ?_
  exact (T_X9_wordKind_b12 C) N a1 a2 (12 : Int32) a1 (1 : Int32) (0 : Int32) h hyp
theorem dX9_takeWord_0 : decode cX9_takeWord 0 = .ok (.aload_n 0, 1) := by decide +kernel
theorem dX9_takeWord_1 : decode cX9_takeWord 1 = .ok (.getfield 21, 3) := by decide +kernel
theorem dX9_takeWord_4 : decode cX9_takeWord 4 = .ok (.getfield 42, 3) := by decide +kernel
theorem dX9_takeWord_7 : decode cX9_takeWord 7 = .ok (.iload_n 1, 1) := by decide +kernel
theorem dX9_takeWord_8 : decode cX9_takeWord 8 = .ok (.caload, 1) := by decide +kernel
theorem dX9_takeWord_9 : decode cX9_takeWord 9 = .ok (.istore_n 3, 1) := by decide +kernel
theorem dX9_takeWord_10 : decode cX9_takeWord 10 = .ok (.iload_n 2, 1) := by decide +kernel
theorem dX9_takeWord_11 : decode cX9_takeWord 11 = .ok (.iload_n 1, 1) := by decide +kernel
theorem dX9_takeWord_12 : decode cX9_takeWord 12 = .ok (.isub, 1) := by decide +kernel
theorem dX9_takeWord_13 : decode cX9_takeWord 13 = .ok (.iconst 1, 1) := by decide +kernel
theorem dX9_takeWord_14 : decode cX9_takeWord 14 = .ok (.if_icmp .ne 22, 3) := by decide +kernel
theorem dX9_takeWord_17 : decode cX9_takeWord 17 = .ok (.iload_n 3, 1) := by decide +kernel
theorem dX9_takeWord_18 : decode cX9_takeWord 18 = .ok (.bipush 104, 2) := by decide +kernel
theorem dX9_takeWord_20 : decode cX9_takeWord 20 = .ok (.if_icmp .gt 16, 3) := by decide +kernel
theorem dX9_takeWord_23 : decode cX9_takeWord 23 = .ok (.aload_n 0, 1) := by decide +kernel
theorem dX9_takeWord_24 : decode cX9_takeWord 24 = .ok (.iconst 3, 1) := by decide +kernel
theorem dX9_takeWord_25 : decode cX9_takeWord 25 = .ok (.iload_n 3, 1) := by decide +kernel
theorem dX9_takeWord_26 : decode cX9_takeWord 26 = .ok (.bipush 97, 2) := by decide +kernel
theorem dX9_takeWord_28 : decode cX9_takeWord 28 = .ok (.isub, 1) := by decide +kernel
theorem dX9_takeWord_29 : decode cX9_takeWord 29 = .ok (.iload_n 1, 1) := by decide +kernel
theorem dX9_takeWord_30 : decode cX9_takeWord 30 = .ok (.invokevirtual 38, 3) := by decide +kernel
theorem dX9_takeWord_33 : decode cX9_takeWord 33 = .ok (.goto 27, 3) := by decide +kernel
theorem dX9_takeWord_36 : decode cX9_takeWord 36 = .ok (.aload_n 0, 1) := by decide +kernel
theorem dX9_takeWord_37 : decode cX9_takeWord 37 = .ok (.iload_n 2, 1) := by decide +kernel
theorem dX9_takeWord_38 : decode cX9_takeWord 38 = .ok (.iload_n 1, 1) := by decide +kernel
theorem dX9_takeWord_39 : decode cX9_takeWord 39 = .ok (.isub, 1) := by decide +kernel
theorem dX9_takeWord_40 : decode cX9_takeWord 40 = .ok (.bipush 8, 2) := by decide +kernel
theorem dX9_takeWord_42 : decode cX9_takeWord 42 = .ok (.if_icmp .le 7, 3) := by decide +kernel
theorem dX9_takeWord_45 : decode cX9_takeWord 45 = .ok (.iconst 1, 1) := by decide +kernel
theorem dX9_takeWord_46 : decode cX9_takeWord 46 = .ok (.goto 9, 3) := by decide +kernel
theorem dX9_takeWord_49 : decode cX9_takeWord 49 = .ok (.aload_n 0, 1) := by decide +kernel
theorem dX9_takeWord_50 : decode cX9_takeWord 50 = .ok (.iload_n 1, 1) := by decide +kernel
theorem dX9_takeWord_51 : decode cX9_takeWord 51 = .ok (.iload_n 2, 1) := by decide +kernel
theorem dX9_takeWord_52 : decode cX9_takeWord 52 = .ok (.invokevirtual 64, 3) := by decide +kernel
theorem dX9_takeWord_55 : decode cX9_takeWord 55 = .ok (.iconst 0, 1) := by decide +kernel
theorem dX9_takeWord_56 : decode cX9_takeWord 56 = .ok (.iload_n 1, 1) := by decide +kernel
theorem dX9_takeWord_57 : decode cX9_takeWord 57 = .ok (.invokevirtual 38, 3) := by decide +kernel
theorem dX9_takeWord_60 : decode cX9_takeWord 60 = .ok (.iload_n 2, 1) := by decide +kernel
theorem dX9_takeWord_61 : decode cX9_takeWord 61 = .ok (.ireturn, 1) := by decide +kernel
def F_X9_takeWord_b55 (N : Nat) (x1 : Int32) (x2 : Int32) (s0 : Int32) (h : PH) : Option (Int32 × PH) :=
  bV (F_X9_add s0 (0 : Int32) x1 h) fun h2 =>
  some (x2, h2)
set_option maxRecDepth 20000 in
set_option maxHeartbeats 4000000 in
theorem T_X9_takeWord_b55 {X : CT} (C : CX X 103 cX9_takeWord 4 RX9 (some .int) 5 112) {r0 : Int32} {h0 : PH} {N : Nat} : ∀ (x1 : Int32) (x2 : Int32) (s0 : Int32) (h : PH), F_X9_takeWord_b55 N x1 x2 s0 h = some (r0, h0) → V X (QI X r0 h0) h 55 [none, some (.int x1), some (.int x2), none] [.int s0, .ref 10] := by
  intro x1 x2 s0 h hyp
  unfold F_X9_takeWord_b55 at hyp
  refine V_iconst (pc := 55) C dX9_takeWord_55 (v := 0) (by decide) ?_
  refine V_iload_n (pc := 56) C dX9_takeWord_56 rfl ?_
  obtain ⟨h2, eh2, hyp⟩ := bV_n hyp
  refine V_callV (pc := 57) C dX9_takeWord_57 lm_X9_38 mk_X9_add ok_10 rfl (M_X9_add _ eh2) rfl pd_X9_add (by decide) (by decide) (by decide) (As := [.int s0, .int (0 : Int32), .int x1]) (rest := []) rfl (Nat.le_of_ble_eq_true rfl) ?_
  refine V_iload_n (pc := 60) C dX9_takeWord_60 rfl ?_
  cases hyp
  exact V_iret C dX9_takeWord_61
def F_X9_takeWord_b36 (N : Nat) (x1 : Int32) (x2 : Int32) (h : PH) : Option (Int32 × PH) :=
  if (x2 - x1) ≤ (8 : Int32) then
    bI (F_X9_wordKind N x1 x2 h) fun r2 h3 =>
    F_X9_takeWord_b55 N x1 x2 r2 h3
  else
    F_X9_takeWord_b55 N x1 x2 (1 : Int32) h
set_option maxRecDepth 20000 in
set_option maxHeartbeats 4000000 in
theorem T_X9_takeWord_b36 {X : CT} (C : CX X 103 cX9_takeWord 4 RX9 (some .int) 5 112) {r0 : Int32} {h0 : PH} {N : Nat} : ∀ (x1 : Int32) (x2 : Int32) (h : PH), F_X9_takeWord_b36 N x1 x2 h = some (r0, h0) → V X (QI X r0 h0) h 36 [some (.ref 10), some (.int x1), some (.int x2), none] [] := by
  intro x1 x2 h hyp
  unfold F_X9_takeWord_b36 at hyp
  refine V_aload_n (pc := 36) C dX9_takeWord_36 rfl ?_
  refine V_iload_n (pc := 37) C dX9_takeWord_37 rfl ?_
  refine V_iload_n (pc := 38) C dX9_takeWord_38 rfl ?_
  refine V_isub (pc := 39) C dX9_takeWord_39 ?_
  refine V_bipush (pc := 40) C dX9_takeWord_40 (v := 8) (by decide) ?_
  refine V_icmp_le (pc := 42) C dX9_takeWord_42 (tgt := 49) (by decide) (fun q1 => ?_) (fun q1 => ?_)
  · replace hyp := (if_pos q1).symm.trans hyp
    refine V_aload_n (pc := 49) C dX9_takeWord_49 rfl ?_
    refine V_iload_n (pc := 50) C dX9_takeWord_50 rfl ?_
    refine V_iload_n (pc := 51) C dX9_takeWord_51 rfl ?_
    obtain ⟨r2, h3, eh3, hyp⟩ := bI_n hyp
    refine V_callI (pc := 52) C dX9_takeWord_52 lm_X9_64 mk_X9_wordKind ok_10 rfl (M_X9_wordKind _ eh3) rfl pd_X9_wordKind (by decide) (by decide) (by decide) (As := [.int x1, .int x2]) (rest := [.ref 10]) rfl (Nat.le_of_ble_eq_true rfl) ?_
    refine V_weak (lv' := [none, some (.int x1), some (.int x2), none]) (lvle_n (lvle_s (lvle_s (lvle_n lvle_0)))) ?_
    exact (T_X9_takeWord_b55 C) x1 x2 r2 h3 hyp
  · replace hyp := (if_neg q1).symm.trans hyp
    refine V_iconst (pc := 45) C dX9_takeWord_45 (v := 1) (by decide) ?_
    refine V_goto (pc := 46) C dX9_takeWord_46 (tgt := 55) (by decide) ?_
    refine V_weak (lv' := [none, some (.int x1), some (.int x2), none]) (lvle_n (lvle_s (lvle_s (lvle_n lvle_0)))) ?_
    exact (T_X9_takeWord_b55 C) x1 x2 (1 : Int32) h hyp
def F_X9_takeWord (N : Nat) (a1 : Int32) (a2 : Int32) (h : PH) : Option (Int32 × PH) :=
  if inb a1 1000 = true then
  ib (h.1 2 a1.toNatClampNeg) fun v2 =>
  if (a2 - a1) = (1 : Int32) then
    if (104 : Int32) < v2 then
      F_X9_takeWord_b36 N a1 a2 h
    else
      bV (F_X9_add (3 : Int32) (v2 - (97 : Int32)) a1 h) fun h6 =>
      some (a2, h6)
  else
    F_X9_takeWord_b36 N a1 a2 h
  else none
set_option maxRecDepth 20000 in
set_option maxHeartbeats 4000000 in
theorem M_X9_takeWord (E : EV) {N : Nat} {a1 : Int32} {a2 : Int32} {r : Int32} {h h2 : PH} (hyp : F_X9_takeWord N a1 a2 h = some (r, h2)) : MI E 103 yX9_takeWord cX9_takeWord 4 (some .int) 5 112 [.ref 10, .int a1, .int a2] h r h2 := by
  refine MI.of 1 (by decide) rfl (fun X e1 C => ?_)
  subst e1
  replace C : CX X 103 cX9_takeWord 4 RX9 (some .int) 5 112 := C
  show V X _ h 0 [some (.ref 10), some (.int a1), some (.int a2), none] []
  unfold F_X9_takeWord at hyp
  refine V_aload_n (pc := 0) C dX9_takeWord_0 rfl ?_
  refine V_getR (pc := 1) C dX9_takeWord_1 lf_X9_21 fk_10_3 ?_
  refine V_getR (pc := 4) C dX9_takeWord_4 lf_X9_42 fk_1_0 ?_
  refine V_iload_n (pc := 7) C dX9_takeWord_7 rfl ?_
  obtain ⟨g1, hyp⟩ := gd_n hyp
  refine V_cald (pc := 8) C dX9_takeWord_8 ak_2 g1 ?_
  obtain ⟨v2, ev2, hyp⟩ := ib_n hyp
  refine V_topI ev2 ?_
  refine V_istore_n (pc := 9) C dX9_takeWord_9 (by decide) rfl ?_
  refine V_iload_n (pc := 10) C dX9_takeWord_10 rfl ?_
  refine V_iload_n (pc := 11) C dX9_takeWord_11 rfl ?_
  refine V_isub (pc := 12) C dX9_takeWord_12 ?_
  refine V_iconst (pc := 13) C dX9_takeWord_13 (v := 1) (by decide) ?_
  refine V_icmp_ne (pc := 14) C dX9_takeWord_14 (tgt := 36) (by decide) (fun q3 => ?_) (fun q3 => ?_)
  · replace hyp := (if_neg q3).symm.trans hyp
    refine V_weak (lv' := [some (.ref 10), some (.int a1), some (.int a2), none]) (lvle_s (lvle_s (lvle_s (lvle_n lvle_0)))) ?_
    exact (T_X9_takeWord_b36 C) a1 a2 h hyp
  · replace hyp := (if_pos q3).symm.trans hyp
    refine V_iload_n (pc := 17) C dX9_takeWord_17 rfl ?_
    refine V_bipush (pc := 18) C dX9_takeWord_18 (v := 104) (by decide) ?_
    refine V_icmp_gt (pc := 20) C dX9_takeWord_20 (tgt := 36) (by decide) (fun q4 => ?_) (fun q4 => ?_)
    · replace hyp := (if_pos q4).symm.trans hyp
      refine V_weak (lv' := [some (.ref 10), some (.int a1), some (.int a2), none]) (lvle_s (lvle_s (lvle_s (lvle_n lvle_0)))) ?_
      exact (T_X9_takeWord_b36 C) a1 a2 h hyp
    · replace hyp := (if_neg q4).symm.trans hyp
      refine V_aload_n (pc := 23) C dX9_takeWord_23 rfl ?_
      refine V_iconst (pc := 24) C dX9_takeWord_24 (v := 3) (by decide) ?_
      refine V_iload_n (pc := 25) C dX9_takeWord_25 rfl ?_
      refine V_bipush (pc := 26) C dX9_takeWord_26 (v := 97) (by decide) ?_
      refine V_isub (pc := 28) C dX9_takeWord_28 ?_
      refine V_iload_n (pc := 29) C dX9_takeWord_29 rfl ?_
      obtain ⟨h6, eh6, hyp⟩ := bV_n hyp
      refine V_callV (pc := 30) C dX9_takeWord_30 lm_X9_38 mk_X9_add ok_10 rfl (M_X9_add _ eh6) rfl pd_X9_add (by decide) (by decide) (by decide) (As := [.int (3 : Int32), .int (v2 - (97 : Int32)), .int a1]) (rest := []) rfl (Nat.le_of_ble_eq_true rfl) ?_
      refine V_goto (pc := 33) C dX9_takeWord_33 (tgt := 60) (by decide) ?_
      refine V_iload_n (pc := 60) C dX9_takeWord_60 rfl ?_
      cases hyp
      exact V_iret C dX9_takeWord_61
theorem dX9_takeNumber_0 : decode cX9_takeNumber 0 = .ok (.iconst 0, 1) := by decide +kernel
theorem dX9_takeNumber_1 : decode cX9_takeNumber 1 = .ok (.istore_n 3, 1) := by decide +kernel
theorem dX9_takeNumber_2 : decode cX9_takeNumber 2 = .ok (.iload_n 1, 1) := by decide +kernel
theorem dX9_takeNumber_3 : decode cX9_takeNumber 3 = .ok (.istore 4, 2) := by decide +kernel
theorem dX9_takeNumber_5 : decode cX9_takeNumber 5 = .ok (.iload 4, 2) := by decide +kernel
theorem dX9_takeNumber_7 : decode cX9_takeNumber 7 = .ok (.iload_n 2, 1) := by decide +kernel
theorem dX9_takeNumber_8 : decode cX9_takeNumber 8 = .ok (.if_icmp .ge 36, 3) := by decide +kernel
theorem dX9_takeNumber_11 : decode cX9_takeNumber 11 = .ok (.iload 4, 2) := by decide +kernel
theorem dX9_takeNumber_13 : decode cX9_takeNumber 13 = .ok (.iload_n 1, 1) := by decide +kernel
theorem dX9_takeNumber_14 : decode cX9_takeNumber 14 = .ok (.iconst 4, 1) := by decide +kernel
theorem dX9_takeNumber_15 : decode cX9_takeNumber 15 = .ok (.iadd, 1) := by decide +kernel
theorem dX9_takeNumber_16 : decode cX9_takeNumber 16 = .ok (.if_icmp .ge 28, 3) := by decide +kernel
theorem dX9_takeNumber_19 : decode cX9_takeNumber 19 = .ok (.iload_n 3, 1) := by decide +kernel
theorem dX9_takeNumber_20 : decode cX9_takeNumber 20 = .ok (.bipush 10, 2) := by decide +kernel
theorem dX9_takeNumber_22 : decode cX9_takeNumber 22 = .ok (.imul, 1) := by decide +kernel
theorem dX9_takeNumber_23 : decode cX9_takeNumber 23 = .ok (.aload_n 0, 1) := by decide +kernel
theorem dX9_takeNumber_24 : decode cX9_takeNumber 24 = .ok (.getfield 21, 3) := by decide +kernel
theorem dX9_takeNumber_27 : decode cX9_takeNumber 27 = .ok (.getfield 42, 3) := by decide +kernel
theorem dX9_takeNumber_30 : decode cX9_takeNumber 30 = .ok (.iload 4, 2) := by decide +kernel
theorem dX9_takeNumber_32 : decode cX9_takeNumber 32 = .ok (.caload, 1) := by decide +kernel
theorem dX9_takeNumber_33 : decode cX9_takeNumber 33 = .ok (.iadd, 1) := by decide +kernel
theorem dX9_takeNumber_34 : decode cX9_takeNumber 34 = .ok (.bipush 48, 2) := by decide +kernel
theorem dX9_takeNumber_36 : decode cX9_takeNumber 36 = .ok (.isub, 1) := by decide +kernel
theorem dX9_takeNumber_37 : decode cX9_takeNumber 37 = .ok (.istore_n 3, 1) := by decide +kernel
theorem dX9_takeNumber_38 : decode cX9_takeNumber 38 = .ok (.iinc 4 1, 3) := by decide +kernel
theorem dX9_takeNumber_41 : decode cX9_takeNumber 41 = .ok (.goto (-36), 3) := by decide +kernel
theorem dX9_takeNumber_44 : decode cX9_takeNumber 44 = .ok (.aload_n 0, 1) := by decide +kernel
theorem dX9_takeNumber_45 : decode cX9_takeNumber 45 = .ok (.iload_n 2, 1) := by decide +kernel
theorem dX9_takeNumber_46 : decode cX9_takeNumber 46 = .ok (.iload_n 1, 1) := by decide +kernel
theorem dX9_takeNumber_47 : decode cX9_takeNumber 47 = .ok (.isub, 1) := by decide +kernel
theorem dX9_takeNumber_48 : decode cX9_takeNumber 48 = .ok (.iconst 4, 1) := by decide +kernel
theorem dX9_takeNumber_49 : decode cX9_takeNumber 49 = .ok (.if_icmp .le 7, 3) := by decide +kernel
theorem dX9_takeNumber_52 : decode cX9_takeNumber 52 = .ok (.iconst 1, 1) := by decide +kernel
theorem dX9_takeNumber_53 : decode cX9_takeNumber 53 = .ok (.goto 4, 3) := by decide +kernel
theorem dX9_takeNumber_56 : decode cX9_takeNumber 56 = .ok (.iconst 2, 1) := by decide +kernel
theorem dX9_takeNumber_57 : decode cX9_takeNumber 57 = .ok (.iload_n 3, 1) := by decide +kernel
theorem dX9_takeNumber_58 : decode cX9_takeNumber 58 = .ok (.iload_n 1, 1) := by decide +kernel
theorem dX9_takeNumber_59 : decode cX9_takeNumber 59 = .ok (.invokevirtual 38, 3) := by decide +kernel
theorem dX9_takeNumber_62 : decode cX9_takeNumber 62 = .ok (.iload_n 2, 1) := by decide +kernel
theorem dX9_takeNumber_63 : decode cX9_takeNumber 63 = .ok (.ireturn, 1) := by decide +kernel
def F_X9_takeNumber_b57 (N : Nat) (x1 : Int32) (x2 : Int32) (x3 : Int32) (s0 : Int32) (h : PH) : Option (Int32 × PH) :=
  bV (F_X9_add s0 x3 x1 h) fun h2 =>
  some (x2, h2)
set_option maxRecDepth 20000 in
set_option maxHeartbeats 4000000 in
theorem T_X9_takeNumber_b57 {X : CT} (C : CX X 103 cX9_takeNumber 5 RX9 (some .int) 1 23) {r0 : Int32} {h0 : PH} {N : Nat} : ∀ (x1 : Int32) (x2 : Int32) (x3 : Int32) (s0 : Int32) (h : PH), F_X9_takeNumber_b57 N x1 x2 x3 s0 h = some (r0, h0) → V X (QI X r0 h0) h 57 [none, some (.int x1), some (.int x2), some (.int x3), none] [.int s0, .ref 10] := by
  intro x1 x2 x3 s0 h hyp
  unfold F_X9_takeNumber_b57 at hyp
  refine V_iload_n (pc := 57) C dX9_takeNumber_57 rfl ?_
  refine V_iload_n (pc := 58) C dX9_takeNumber_58 rfl ?_
  obtain ⟨h2, eh2, hyp⟩ := bV_n hyp
  refine V_callV (pc := 59) C dX9_takeNumber_59 lm_X9_38 mk_X9_add ok_10 rfl (M_X9_add _ eh2) rfl pd_X9_add (by decide) (by decide) (by decide) (As := [.int s0, .int x3, .int x1]) (rest := []) rfl (Nat.le_of_ble_eq_true rfl) ?_
  refine V_iload_n (pc := 62) C dX9_takeNumber_62 rfl ?_
  cases hyp
  exact V_iret C dX9_takeNumber_63
def F_X9_takeNumber_b44 (N : Nat) (x1 : Int32) (x2 : Int32) (x3 : Int32) (h : PH) : Option (Int32 × PH) :=
  if (x2 - x1) ≤ (4 : Int32) then
    F_X9_takeNumber_b57 N x1 x2 x3 (2 : Int32) h
  else
    F_X9_takeNumber_b57 N x1 x2 x3 (1 : Int32) h
set_option maxRecDepth 20000 in
set_option maxHeartbeats 4000000 in
theorem T_X9_takeNumber_b44 {X : CT} (C : CX X 103 cX9_takeNumber 5 RX9 (some .int) 1 23) {r0 : Int32} {h0 : PH} {N : Nat} : ∀ (x1 : Int32) (x2 : Int32) (x3 : Int32) (h : PH), F_X9_takeNumber_b44 N x1 x2 x3 h = some (r0, h0) → V X (QI X r0 h0) h 44 [some (.ref 10), some (.int x1), some (.int x2), some (.int x3), none] [] := by
  intro x1 x2 x3 h hyp
  unfold F_X9_takeNumber_b44 at hyp
  refine V_aload_n (pc := 44) C dX9_takeNumber_44 rfl ?_
  refine V_iload_n (pc := 45) C dX9_takeNumber_45 rfl ?_
  refine V_iload_n (pc := 46) C dX9_takeNumber_46 rfl ?_
  refine V_isub (pc := 47) C dX9_takeNumber_47 ?_
  refine V_iconst (pc := 48) C dX9_takeNumber_48 (v := 4) (by decide) ?_
  refine V_icmp_le (pc := 49) C dX9_takeNumber_49 (tgt := 56) (by decide) (fun q1 => ?_) (fun q1 => ?_)
  · replace hyp := (if_pos q1).symm.trans hyp
    refine V_iconst (pc := 56) C dX9_takeNumber_56 (v := 2) (by decide) ?_
    refine V_weak (lv' := [none, some (.int x1), some (.int x2), some (.int x3), none]) (lvle_n (lvle_s (lvle_s (lvle_s (lvle_n lvle_0))))) ?_
    exact (T_X9_takeNumber_b57 C) x1 x2 x3 (2 : Int32) h hyp
  · replace hyp := (if_neg q1).symm.trans hyp
    refine V_iconst (pc := 52) C dX9_takeNumber_52 (v := 1) (by decide) ?_
    refine V_goto (pc := 53) C dX9_takeNumber_53 (tgt := 57) (by decide) ?_
    refine V_weak (lv' := [none, some (.int x1), some (.int x2), some (.int x3), none]) (lvle_n (lvle_s (lvle_s (lvle_s (lvle_n lvle_0))))) ?_
    exact (T_X9_takeNumber_b57 C) x1 x2 x3 (1 : Int32) h hyp
def F_X9_takeNumber_b5 (N : Nat) : Nat → Int32 → Int32 → Int32 → Int32 → PH → Option (Int32 × PH)
  | 0, _, _, _, _, _ => none
  | n + 1, x1, x2, x3, x4, h =>
    if x2 ≤ x4 then
      F_X9_takeNumber_b44 N x1 x2 x3 h
    else
      if (x1 + (4 : Int32)) ≤ x4 then
        F_X9_takeNumber_b44 N x1 x2 x3 h
      else
        if inb x4 1000 = true then
        ib (((x3 * (10 : Int32)) + (h.1 2 x4.toNatClampNeg)) - (48 : Int32)) fun v4 =>
        ib (x4 + (1 : Int32)) fun v5 =>
        F_X9_takeNumber_b5 N n x1 x2 v4 v5 h
        else none
set_option maxRecDepth 20000 in
set_option maxHeartbeats 4000000 in
theorem T_X9_takeNumber_b5 {X : CT} (C : CX X 103 cX9_takeNumber 5 RX9 (some .int) 1 23) {r0 : Int32} {h0 : PH} {N : Nat} : ∀ (n : Nat) (x1 : Int32) (x2 : Int32) (x3 : Int32) (x4 : Int32) (h : PH), F_X9_takeNumber_b5 N n x1 x2 x3 x4 h = some (r0, h0) → V X (QI X r0 h0) h 5 [some (.ref 10), some (.int x1), some (.int x2), some (.int x3), some (.int x4)] [] := by
  intro n
  induction n with
  | zero =>
    intro x1 x2 x3 x4 h hyp
    cases hyp
  | succ n ih =>
    intro x1 x2 x3 x4 h hyp
    unfold F_X9_takeNumber_b5 at hyp
    refine V_iload (pc := 5) C dX9_takeNumber_5 rfl ?_
    refine V_iload_n (pc := 7) C dX9_takeNumber_7 rfl ?_
    refine V_icmp_ge (pc := 8) C dX9_takeNumber_8 (tgt := 44) (by decide) (fun q1 => ?_) (fun q1 => ?_)
    · replace hyp := (if_pos q1).symm.trans hyp
      refine V_weak (lv' := [some (.ref 10), some (.int x1), some (.int x2), some (.int x3), none]) (lvle_s (lvle_s (lvle_s (lvle_s (lvle_n lvle_0))))) ?_
      exact (T_X9_takeNumber_b44 C) x1 x2 x3 h hyp
    · replace hyp := (if_neg q1).symm.trans hyp
      refine V_iload (pc := 11) C dX9_takeNumber_11 rfl ?_
      refine V_iload_n (pc := 13) C dX9_takeNumber_13 rfl ?_
      refine V_iconst (pc := 14) C dX9_takeNumber_14 (v := 4) (by decide) ?_
      refine V_iadd (pc := 15) C dX9_takeNumber_15 ?_
      refine V_icmp_ge (pc := 16) C dX9_takeNumber_16 (tgt := 44) (by decide) (fun q2 => ?_) (fun q2 => ?_)
      · replace hyp := (if_pos q2).symm.trans hyp
        refine V_weak (lv' := [some (.ref 10), some (.int x1), some (.int x2), some (.int x3), none]) (lvle_s (lvle_s (lvle_s (lvle_s (lvle_n lvle_0))))) ?_
        exact (T_X9_takeNumber_b44 C) x1 x2 x3 h hyp
      · replace hyp := (if_neg q2).symm.trans hyp
        refine V_iload_n (pc := 19) C dX9_takeNumber_19 rfl ?_
        refine V_bipush (pc := 20) C dX9_takeNumber_20 (v := 10) (by decide) ?_
        refine V_imul (pc := 22) C dX9_takeNumber_22 ?_
        refine V_aload_n (pc := 23) C dX9_takeNumber_23 rfl ?_
        refine V_getR (pc := 24) C dX9_takeNumber_24 lf_X9_21 fk_10_3 ?_
        refine V_getR (pc := 27) C dX9_takeNumber_27 lf_X9_42 fk_1_0 ?_
        refine V_iload (pc := 30) C dX9_takeNumber_30 rfl ?_
        obtain ⟨g3, hyp⟩ := gd_n hyp
        refine V_cald (pc := 32) C dX9_takeNumber_32 ak_2 g3 ?_
        refine V_iadd (pc := 33) C dX9_takeNumber_33 ?_
        refine V_bipush (pc := 34) C dX9_takeNumber_34 (v := 48) (by decide) ?_
        refine V_isub (pc := 36) C dX9_takeNumber_36 ?_
        obtain ⟨v4, ev4, hyp⟩ := ib_n hyp
        refine V_topI ev4 ?_
        refine V_istore_n (pc := 37) C dX9_takeNumber_37 (by decide) rfl ?_
        obtain ⟨v5, ev5, hyp⟩ := ib_n hyp
        refine V_iinc (pc := 38) C dX9_takeNumber_38 (v := v5) rfl (by rw [ev5]; rfl) (by decide) rfl ?_
        refine V_goto (pc := 41) C dX9_takeNumber_41 (tgt := 5) (by decide) ?_
        refine V_weak (lv' := [some (.ref 10), some (.int x1), some (.int x2), some (.int v4), some (.int v5)]) (lvle_s (lvle_s (lvle_s (lvle_s (lvle_s lvle_0))))) ?_
        exact ih x1 x2 v4 v5 h hyp
def F_X9_takeNumber (N : Nat) (a1 : Int32) (a2 : Int32) (h : PH) : Option (Int32 × PH) :=
  F_X9_takeNumber_b5 N N a1 a2 (0 : Int32) a1 h
set_option maxRecDepth 20000 in
set_option maxHeartbeats 4000000 in
theorem M_X9_takeNumber (E : EV) {N : Nat} {a1 : Int32} {a2 : Int32} {r : Int32} {h h2 : PH} (hyp : F_X9_takeNumber N a1 a2 h = some (r, h2)) : MI E 103 yX9_takeNumber cX9_takeNumber 5 (some .int) 1 23 [.ref 10, .int a1, .int a2] h r h2 := by
  refine MI.of 2 (by decide) rfl (fun X e1 C => ?_)
  subst e1
  replace C : CX X 103 cX9_takeNumber 5 RX9 (some .int) 1 23 := C
  show V X _ h 0 [some (.ref 10), some (.int a1), some (.int a2), none, none] []
  unfold F_X9_takeNumber at hyp
  refine V_iconst (pc := 0) C dX9_takeNumber_0 (v := 0) (by decide) ?_
  refine V_istore_n (pc := 1) C dX9_takeNumber_1 (by decide) rfl ?_
  refine V_iload_n (pc := 2) C dX9_takeNumber_2 rfl ?_
  refine V_istore (pc := 3) C dX9_takeNumber_3 (by decide) rfl ?_
  refine V_weak (lv' := [some (.ref 10), some (.int a1), some (.int a2), some (.int (0 : Int32)), some (.int a1)]) (lvle_s (lvle_s (lvle_s (lvle_s (lvle_s lvle_0))))) ?_
  exact (T_X9_takeNumber_b5 C) N a1 a2 (0 : Int32) a1 h hyp
theorem dX9_takeOne_0 : decode cX9_takeOne 0 = .ok (.aload_n 0, 1) := by decide +kernel
theorem dX9_takeOne_1 : decode cX9_takeOne 1 = .ok (.getfield 21, 3) := by decide +kernel
theorem dX9_takeOne_4 : decode cX9_takeOne 4 = .ok (.getfield 42, 3) := by decide +kernel
theorem dX9_takeOne_7 : decode cX9_takeOne 7 = .ok (.iload_n 1, 1) := by decide +kernel
theorem dX9_takeOne_8 : decode cX9_takeOne 8 = .ok (.caload, 1) := by decide +kernel
theorem dX9_takeOne_9 : decode cX9_takeOne 9 = .ok (.istore_n 2, 1) := by decide +kernel
theorem dX9_takeOne_10 : decode cX9_takeOne 10 = .ok (.iload_n 2, 1) := by decide +kernel
theorem dX9_takeOne_11 : decode cX9_takeOne 11 = .ok (.bipush 32, 2) := by decide +kernel
theorem dX9_takeOne_13 : decode cX9_takeOne 13 = .ok (.if_icmp .eq 9, 3) := by decide +kernel
theorem dX9_takeOne_16 : decode cX9_takeOne 16 = .ok (.iload_n 2, 1) := by decide +kernel
theorem dX9_takeOne_17 : decode cX9_takeOne 17 = .ok (.bipush 10, 2) := by decide +kernel
theorem dX9_takeOne_19 : decode cX9_takeOne 19 = .ok (.if_icmp .ne 7, 3) := by decide +kernel
theorem dX9_takeOne_22 : decode cX9_takeOne 22 = .ok (.iload_n 1, 1) := by decide +kernel
theorem dX9_takeOne_23 : decode cX9_takeOne 23 = .ok (.iconst 1, 1) := by decide +kernel
theorem dX9_takeOne_24 : decode cX9_takeOne 24 = .ok (.iadd, 1) := by decide +kernel
theorem dX9_takeOne_25 : decode cX9_takeOne 25 = .ok (.ireturn, 1) := by decide +kernel
theorem dX9_takeOne_26 : decode cX9_takeOne 26 = .ok (.iload_n 2, 1) := by decide +kernel
theorem dX9_takeOne_27 : decode cX9_takeOne 27 = .ok (.bipush 97, 2) := by decide +kernel
theorem dX9_takeOne_29 : decode cX9_takeOne 29 = .ok (.if_icmp .lt 24, 3) := by decide +kernel
theorem dX9_takeOne_32 : decode cX9_takeOne 32 = .ok (.iload_n 2, 1) := by decide +kernel
theorem dX9_takeOne_33 : decode cX9_takeOne 33 = .ok (.bipush 122, 2) := by decide +kernel
theorem dX9_takeOne_35 : decode cX9_takeOne 35 = .ok (.if_icmp .gt 18, 3) := by decide +kernel
theorem dX9_takeOne_38 : decode cX9_takeOne 38 = .ok (.aload_n 0, 1) := by decide +kernel
theorem dX9_takeOne_39 : decode cX9_takeOne 39 = .ok (.iload_n 1, 1) := by decide +kernel
theorem dX9_takeOne_40 : decode cX9_takeOne 40 = .ok (.aload_n 0, 1) := by decide +kernel
theorem dX9_takeOne_41 : decode cX9_takeOne 41 = .ok (.iload_n 1, 1) := by decide +kernel
theorem dX9_takeOne_42 : decode cX9_takeOne 42 = .ok (.bipush 97, 2) := by decide +kernel
theorem dX9_takeOne_44 : decode cX9_takeOne 44 = .ok (.bipush 122, 2) := by decide +kernel
theorem dX9_takeOne_46 : decode cX9_takeOne 46 = .ok (.invokevirtual 46, 3) := by decide +kernel
theorem dX9_takeOne_49 : decode cX9_takeOne 49 = .ok (.invokevirtual 50, 3) := by decide +kernel
theorem dX9_takeOne_52 : decode cX9_takeOne 52 = .ok (.ireturn, 1) := by decide +kernel
theorem dX9_takeOne_53 : decode cX9_takeOne 53 = .ok (.iload_n 2, 1) := by decide +kernel
theorem dX9_takeOne_54 : decode cX9_takeOne 54 = .ok (.bipush 48, 2) := by decide +kernel
theorem dX9_takeOne_56 : decode cX9_takeOne 56 = .ok (.if_icmp .lt 24, 3) := by decide +kernel
theorem dX9_takeOne_59 : decode cX9_takeOne 59 = .ok (.iload_n 2, 1) := by decide +kernel
theorem dX9_takeOne_60 : decode cX9_takeOne 60 = .ok (.bipush 57, 2) := by decide +kernel
theorem dX9_takeOne_62 : decode cX9_takeOne 62 = .ok (.if_icmp .gt 18, 3) := by decide +kernel
theorem dX9_takeOne_65 : decode cX9_takeOne 65 = .ok (.aload_n 0, 1) := by decide +kernel
theorem dX9_takeOne_66 : decode cX9_takeOne 66 = .ok (.iload_n 1, 1) := by decide +kernel
theorem dX9_takeOne_67 : decode cX9_takeOne 67 = .ok (.aload_n 0, 1) := by decide +kernel
theorem dX9_takeOne_68 : decode cX9_takeOne 68 = .ok (.iload_n 1, 1) := by decide +kernel
theorem dX9_takeOne_69 : decode cX9_takeOne 69 = .ok (.bipush 48, 2) := by decide +kernel
theorem dX9_takeOne_71 : decode cX9_takeOne 71 = .ok (.bipush 57, 2) := by decide +kernel
theorem dX9_takeOne_73 : decode cX9_takeOne 73 = .ok (.invokevirtual 46, 3) := by decide +kernel
theorem dX9_takeOne_76 : decode cX9_takeOne 76 = .ok (.invokevirtual 54, 3) := by decide +kernel
theorem dX9_takeOne_79 : decode cX9_takeOne 79 = .ok (.ireturn, 1) := by decide +kernel
theorem dX9_takeOne_80 : decode cX9_takeOne 80 = .ok (.ldc 57, 2) := by decide +kernel
theorem dX9_takeOne_82 : decode cX9_takeOne 82 = .ok (.iload_n 2, 1) := by decide +kernel
theorem dX9_takeOne_83 : decode cX9_takeOne 83 = .ok (.invokevirtual 59, 3) := by decide +kernel
theorem dX9_takeOne_86 : decode cX9_takeOne 86 = .ok (.istore_n 3, 1) := by decide +kernel
theorem dX9_takeOne_87 : decode cX9_takeOne 87 = .ok (.aload_n 0, 1) := by decide +kernel
theorem dX9_takeOne_88 : decode cX9_takeOne 88 = .ok (.iload_n 3, 1) := by decide +kernel
theorem dX9_takeOne_89 : decode cX9_takeOne 89 = .ok (.ifCond .ge 7, 3) := by decide +kernel
theorem dX9_takeOne_92 : decode cX9_takeOne 92 = .ok (.iconst 1, 1) := by decide +kernel
theorem dX9_takeOne_93 : decode cX9_takeOne 93 = .ok (.goto 6, 3) := by decide +kernel
theorem dX9_takeOne_96 : decode cX9_takeOne 96 = .ok (.iconst 4, 1) := by decide +kernel
theorem dX9_takeOne_97 : decode cX9_takeOne 97 = .ok (.iload_n 3, 1) := by decide +kernel
theorem dX9_takeOne_98 : decode cX9_takeOne 98 = .ok (.iadd, 1) := by decide +kernel
theorem dX9_takeOne_99 : decode cX9_takeOne 99 = .ok (.iconst 0, 1) := by decide +kernel
theorem dX9_takeOne_100 : decode cX9_takeOne 100 = .ok (.iload_n 1, 1) := by decide +kernel
theorem dX9_takeOne_101 : decode cX9_takeOne 101 = .ok (.invokevirtual 38, 3) := by decide +kernel
theorem dX9_takeOne_104 : decode cX9_takeOne 104 = .ok (.iload_n 1, 1) := by decide +kernel
theorem dX9_takeOne_105 : decode cX9_takeOne 105 = .ok (.iconst 1, 1) := by decide +kernel
theorem dX9_takeOne_106 : decode cX9_takeOne 106 = .ok (.iadd, 1) := by decide +kernel
theorem dX9_takeOne_107 : decode cX9_takeOne 107 = .ok (.ireturn, 1) := by decide +kernel
def F_X9_takeOne_b22 (N : Nat) (x1 : Int32) (h : PH) : Option (Int32 × PH) :=
  some (x1 + (1 : Int32), h)
set_option maxRecDepth 20000 in
set_option maxHeartbeats 4000000 in
theorem T_X9_takeOne_b22 {X : CT} (C : CX X 103 cX9_takeOne 4 RX9 (some .int) 6 135) {r0 : Int32} {h0 : PH} {N : Nat} : ∀ (x1 : Int32) (h : PH), F_X9_takeOne_b22 N x1 h = some (r0, h0) → V X (QI X r0 h0) h 22 [none, some (.int x1), none, none] [] := by
  intro x1 h hyp
  unfold F_X9_takeOne_b22 at hyp
  refine V_iload_n (pc := 22) C dX9_takeOne_22 rfl ?_
  refine V_iconst (pc := 23) C dX9_takeOne_23 (v := 1) (by decide) ?_
  refine V_iadd (pc := 24) C dX9_takeOne_24 ?_
  cases hyp
  exact V_iret C dX9_takeOne_25
def F_X9_takeOne_b99 (N : Nat) (x1 : Int32) (s0 : Int32) (h : PH) : Option (Int32 × PH) :=
  bV (F_X9_add s0 (0 : Int32) x1 h) fun h2 =>
  some (x1 + (1 : Int32), h2)
set_option maxRecDepth 20000 in
set_option maxHeartbeats 4000000 in
theorem T_X9_takeOne_b99 {X : CT} (C : CX X 103 cX9_takeOne 4 RX9 (some .int) 6 135) {r0 : Int32} {h0 : PH} {N : Nat} : ∀ (x1 : Int32) (s0 : Int32) (h : PH), F_X9_takeOne_b99 N x1 s0 h = some (r0, h0) → V X (QI X r0 h0) h 99 [none, some (.int x1), none, none] [.int s0, .ref 10] := by
  intro x1 s0 h hyp
  unfold F_X9_takeOne_b99 at hyp
  refine V_iconst (pc := 99) C dX9_takeOne_99 (v := 0) (by decide) ?_
  refine V_iload_n (pc := 100) C dX9_takeOne_100 rfl ?_
  obtain ⟨h2, eh2, hyp⟩ := bV_n hyp
  refine V_callV (pc := 101) C dX9_takeOne_101 lm_X9_38 mk_X9_add ok_10 rfl (M_X9_add _ eh2) rfl pd_X9_add (by decide) (by decide) (by decide) (As := [.int s0, .int (0 : Int32), .int x1]) (rest := []) rfl (Nat.le_of_ble_eq_true rfl) ?_
  refine V_iload_n (pc := 104) C dX9_takeOne_104 rfl ?_
  refine V_iconst (pc := 105) C dX9_takeOne_105 (v := 1) (by decide) ?_
  refine V_iadd (pc := 106) C dX9_takeOne_106 ?_
  cases hyp
  exact V_iret C dX9_takeOne_107
def F_X9_takeOne_b80 (N : Nat) (x1 : Int32) (x2 : Int32) (h : PH) : Option (Int32 × PH) :=
  bI (F_J0_indexOf_0f7a4 N 0 x2 h) fun r1 h2 =>
  if 0 ≤ r1 then
    F_X9_takeOne_b99 N x1 ((4 : Int32) + r1) h2
  else
    F_X9_takeOne_b99 N x1 (1 : Int32) h2
set_option maxRecDepth 20000 in
set_option maxHeartbeats 4000000 in
theorem T_X9_takeOne_b80 {X : CT} (C : CX X 103 cX9_takeOne 4 RX9 (some .int) 6 135) {r0 : Int32} {h0 : PH} {N : Nat} : ∀ (x1 : Int32) (x2 : Int32) (h : PH), F_X9_takeOne_b80 N x1 x2 h = some (r0, h0) → V X (QI X r0 h0) h 80 [some (.ref 10), some (.int x1), some (.int x2), none] [] := by
  intro x1 x2 h hyp
  unfold F_X9_takeOne_b80 at hyp
  refine V_ldS (pc := 80) C dX9_takeOne_80 ?_
  refine V_iload_n (pc := 82) C dX9_takeOne_82 rfl ?_
  obtain ⟨r1, h2, eh2, hyp⟩ := bI_n hyp
  refine V_scallI (pc := 83) C (si := 0) (by decide) dX9_takeOne_83 lm_X9_59 mk_J0_indexOf_0f7a4 rfl (M_J0_indexOf_0f7a4 _ (by decide) eh2) rfl pd_J0_indexOf_0f7a4 (by decide) (by decide) (by decide) (As := [.int x2]) (rest := []) rfl (Nat.le_of_ble_eq_true rfl) ?_
  refine V_istore_n (pc := 86) C dX9_takeOne_86 (by decide) rfl ?_
  refine V_aload_n (pc := 87) C dX9_takeOne_87 rfl ?_
  refine V_iload_n (pc := 88) C dX9_takeOne_88 rfl ?_
  refine V_if_ge (pc := 89) C dX9_takeOne_89 (tgt := 96) (by decide) (fun q3 => ?_) (fun q3 => ?_)
  · replace hyp := (if_pos q3).symm.trans hyp
    refine V_iconst (pc := 96) C dX9_takeOne_96 (v := 4) (by decide) ?_
    refine V_iload_n (pc := 97) C dX9_takeOne_97 rfl ?_
    refine V_iadd (pc := 98) C dX9_takeOne_98 ?_
    refine V_weak (lv' := [none, some (.int x1), none, none]) (lvle_n (lvle_s (lvle_n (lvle_n lvle_0)))) ?_
    exact (T_X9_takeOne_b99 C) x1 ((4 : Int32) + r1) h2 hyp
  · replace hyp := (if_neg q3).symm.trans hyp
    refine V_iconst (pc := 92) C dX9_takeOne_92 (v := 1) (by decide) ?_
    refine V_goto (pc := 93) C dX9_takeOne_93 (tgt := 99) (by decide) ?_
    refine V_weak (lv' := [none, some (.int x1), none, none]) (lvle_n (lvle_s (lvle_n (lvle_n lvle_0)))) ?_
    exact (T_X9_takeOne_b99 C) x1 (1 : Int32) h2 hyp
def F_X9_takeOne_b53 (N : Nat) (x1 : Int32) (x2 : Int32) (h : PH) : Option (Int32 × PH) :=
  if x2 < (48 : Int32) then
    F_X9_takeOne_b80 N x1 x2 h
  else
    if (57 : Int32) < x2 then
      F_X9_takeOne_b80 N x1 x2 h
    else
      bI (F_X9_endOfRun N x1 (48 : Int32) (57 : Int32) h) fun r3 h4 =>
      bI (F_X9_takeNumber N x1 r3 h4) fun r5 h6 =>
      some (r5, h6)
set_option maxRecDepth 20000 in
set_option maxHeartbeats 4000000 in
theorem T_X9_takeOne_b53 {X : CT} (C : CX X 103 cX9_takeOne 4 RX9 (some .int) 6 135) {r0 : Int32} {h0 : PH} {N : Nat} : ∀ (x1 : Int32) (x2 : Int32) (h : PH), F_X9_takeOne_b53 N x1 x2 h = some (r0, h0) → V X (QI X r0 h0) h 53 [some (.ref 10), some (.int x1), some (.int x2), none] [] := by
  intro x1 x2 h hyp
  unfold F_X9_takeOne_b53 at hyp
  refine V_iload_n (pc := 53) C dX9_takeOne_53 rfl ?_
  refine V_bipush (pc := 54) C dX9_takeOne_54 (v := 48) (by decide) ?_
  refine V_icmp_lt (pc := 56) C dX9_takeOne_56 (tgt := 80) (by decide) (fun q1 => ?_) (fun q1 => ?_)
  · replace hyp := (if_pos q1).symm.trans hyp
    refine V_weak (lv' := [some (.ref 10), some (.int x1), some (.int x2), none]) (lvle_s (lvle_s (lvle_s (lvle_n lvle_0)))) ?_
    exact (T_X9_takeOne_b80 C) x1 x2 h hyp
  · replace hyp := (if_neg q1).symm.trans hyp
    refine V_iload_n (pc := 59) C dX9_takeOne_59 rfl ?_
    refine V_bipush (pc := 60) C dX9_takeOne_60 (v := 57) (by decide) ?_
    refine V_icmp_gt (pc := 62) C dX9_takeOne_62 (tgt := 80) (by decide) (fun q2 => ?_) (fun q2 => ?_)
    · replace hyp := (if_pos q2).symm.trans hyp
      refine V_weak (lv' := [some (.ref 10), some (.int x1), some (.int x2), none]) (lvle_s (lvle_s (lvle_s (lvle_n lvle_0)))) ?_
      exact (T_X9_takeOne_b80 C) x1 x2 h hyp
    · replace hyp := (if_neg q2).symm.trans hyp
      refine V_aload_n (pc := 65) C dX9_takeOne_65 rfl ?_
      refine V_iload_n (pc := 66) C dX9_takeOne_66 rfl ?_
      refine V_aload_n (pc := 67) C dX9_takeOne_67 rfl ?_
      refine V_iload_n (pc := 68) C dX9_takeOne_68 rfl ?_
      refine V_bipush (pc := 69) C dX9_takeOne_69 (v := 48) (by decide) ?_
      refine V_bipush (pc := 71) C dX9_takeOne_71 (v := 57) (by decide) ?_
      obtain ⟨r3, h4, eh4, hyp⟩ := bI_n hyp
      refine V_callI (pc := 73) C dX9_takeOne_73 lm_X9_46 mk_X9_endOfRun ok_10 rfl (M_X9_endOfRun _ eh4) rfl pd_X9_endOfRun (by decide) (by decide) (by decide) (As := [.int x1, .int (48 : Int32), .int (57 : Int32)]) (rest := [.int x1, .ref 10]) rfl (Nat.le_of_ble_eq_true rfl) ?_
      obtain ⟨r5, h6, eh6, hyp⟩ := bI_n hyp
      refine V_callI (pc := 76) C dX9_takeOne_76 lm_X9_54 mk_X9_takeNumber ok_10 rfl (M_X9_takeNumber _ eh6) rfl pd_X9_takeNumber (by decide) (by decide) (by decide) (As := [.int x1, .int r3]) (rest := []) rfl (Nat.le_of_ble_eq_true rfl) ?_
      cases hyp
      exact V_iret C dX9_takeOne_79
def F_X9_takeOne (N : Nat) (a1 : Int32) (h : PH) : Option (Int32 × PH) :=
  if inb a1 1000 = true then
  ib (h.1 2 a1.toNatClampNeg) fun v2 =>
  if v2 = (32 : Int32) then
    F_X9_takeOne_b22 N a1 h
  else
    if v2 = (10 : Int32) then
      F_X9_takeOne_b22 N a1 h
    else
      if v2 < (97 : Int32) then
        F_X9_takeOne_b53 N a1 v2 h
      else
        if (122 : Int32) < v2 then
          F_X9_takeOne_b53 N a1 v2 h
        else
          bI (F_X9_endOfRun N a1 (97 : Int32) (122 : Int32) h) fun r7 h8 =>
          bI (F_X9_takeWord N a1 r7 h8) fun r9 h10 =>
          some (r9, h10)
  else none
set_option maxRecDepth 20000 in
set_option maxHeartbeats 4000000 in
theorem M_X9_takeOne (E : EV) {N : Nat} {a1 : Int32} {r : Int32} {h h2 : PH} (hyp : F_X9_takeOne N a1 h = some (r, h2)) : MI E 103 yX9_takeOne cX9_takeOne 4 (some .int) 6 135 [.ref 10, .int a1] h r h2 := by
  refine MI.of 2 (by decide) rfl (fun X e1 C => ?_)
  subst e1
  replace C : CX X 103 cX9_takeOne 4 RX9 (some .int) 6 135 := C
  show V X _ h 0 [some (.ref 10), some (.int a1), none, none] []
  unfold F_X9_takeOne at hyp
  refine V_aload_n (pc := 0) C dX9_takeOne_0 rfl ?_
  refine V_getR (pc := 1) C dX9_takeOne_1 lf_X9_21 fk_10_3 ?_
  refine V_getR (pc := 4) C dX9_takeOne_4 lf_X9_42 fk_1_0 ?_
  refine V_iload_n (pc := 7) C dX9_takeOne_7 rfl ?_
  obtain ⟨g1, hyp⟩ := gd_n hyp
  refine V_cald (pc := 8) C dX9_takeOne_8 ak_2 g1 ?_
  obtain ⟨v2, ev2, hyp⟩ := ib_n hyp
  refine V_topI ev2 ?_
  refine V_istore_n (pc := 9) C dX9_takeOne_9 (by decide) rfl ?_
  refine V_iload_n (pc := 10) C dX9_takeOne_10 rfl ?_
  refine V_bipush (pc := 11) C dX9_takeOne_11 (v := 32) (by decide) ?_
  refine V_icmp_eq (pc := 13) C dX9_takeOne_13 (tgt := 22) (by decide) (fun q3 => ?_) (fun q3 => ?_)
  · replace hyp := (if_pos q3).symm.trans hyp
    refine V_weak (lv' := [none, some (.int a1), none, none]) (lvle_n (lvle_s (lvle_n (lvle_n lvle_0)))) ?_
    exact (T_X9_takeOne_b22 C) a1 h hyp
  · replace hyp := (if_neg q3).symm.trans hyp
    refine V_iload_n (pc := 16) C dX9_takeOne_16 rfl ?_
    refine V_bipush (pc := 17) C dX9_takeOne_17 (v := 10) (by decide) ?_
    refine V_icmp_ne (pc := 19) C dX9_takeOne_19 (tgt := 26) (by decide) (fun q4 => ?_) (fun q4 => ?_)
    · replace hyp := (if_neg q4).symm.trans hyp
      refine V_iload_n (pc := 26) C dX9_takeOne_26 rfl ?_
      refine V_bipush (pc := 27) C dX9_takeOne_27 (v := 97) (by decide) ?_
      refine V_icmp_lt (pc := 29) C dX9_takeOne_29 (tgt := 53) (by decide) (fun q5 => ?_) (fun q5 => ?_)
      · replace hyp := (if_pos q5).symm.trans hyp
        refine V_weak (lv' := [some (.ref 10), some (.int a1), some (.int v2), none]) (lvle_s (lvle_s (lvle_s (lvle_n lvle_0)))) ?_
        exact (T_X9_takeOne_b53 C) a1 v2 h hyp
      · replace hyp := (if_neg q5).symm.trans hyp
        refine V_iload_n (pc := 32) C dX9_takeOne_32 rfl ?_
        refine V_bipush (pc := 33) C dX9_takeOne_33 (v := 122) (by decide) ?_
        refine V_icmp_gt (pc := 35) C dX9_takeOne_35 (tgt := 53) (by decide) (fun q6 => ?_) (fun q6 => ?_)
        · replace hyp := (if_pos q6).symm.trans hyp
          refine V_weak (lv' := [some (.ref 10), some (.int a1), some (.int v2), none]) (lvle_s (lvle_s (lvle_s (lvle_n lvle_0)))) ?_
          exact (T_X9_takeOne_b53 C) a1 v2 h hyp
        · replace hyp := (if_neg q6).symm.trans hyp
          refine V_aload_n (pc := 38) C dX9_takeOne_38 rfl ?_
          refine V_iload_n (pc := 39) C dX9_takeOne_39 rfl ?_
          refine V_aload_n (pc := 40) C dX9_takeOne_40 rfl ?_
          refine V_iload_n (pc := 41) C dX9_takeOne_41 rfl ?_
          refine V_bipush (pc := 42) C dX9_takeOne_42 (v := 97) (by decide) ?_
          refine V_bipush (pc := 44) C dX9_takeOne_44 (v := 122) (by decide) ?_
          obtain ⟨r7, h8, eh8, hyp⟩ := bI_n hyp
          refine V_callI (pc := 46) C dX9_takeOne_46 lm_X9_46 mk_X9_endOfRun ok_10 rfl (M_X9_endOfRun _ eh8) rfl pd_X9_endOfRun (by decide) (by decide) (by decide) (As := [.int a1, .int (97 : Int32), .int (122 : Int32)]) (rest := [.int a1, .ref 10]) rfl (Nat.le_of_ble_eq_true rfl) ?_
          obtain ⟨r9, h10, eh10, hyp⟩ := bI_n hyp
          refine V_callI (pc := 49) C dX9_takeOne_49 lm_X9_50 mk_X9_takeWord ok_10 rfl (M_X9_takeWord _ eh10) rfl pd_X9_takeWord (by decide) (by decide) (by decide) (As := [.int a1, .int r7]) (rest := []) rfl (Nat.le_of_ble_eq_true rfl) ?_
          cases hyp
          exact V_iret C dX9_takeOne_52
    · replace hyp := (if_pos q4).symm.trans hyp
      refine V_weak (lv' := [none, some (.int a1), none, none]) (lvle_n (lvle_s (lvle_n (lvle_n lvle_0)))) ?_
      exact (T_X9_takeOne_b22 C) a1 h hyp
theorem dX9_take_0 : decode cX9_take 0 = .ok (.aload_n 0, 1) := by decide +kernel
theorem dX9_take_1 : decode cX9_take 1 = .ok (.iconst 0, 1) := by decide +kernel
theorem dX9_take_2 : decode cX9_take 2 = .ok (.putfield 25, 3) := by decide +kernel
theorem dX9_take_5 : decode cX9_take 5 = .ok (.iconst 0, 1) := by decide +kernel
theorem dX9_take_6 : decode cX9_take 6 = .ok (.istore_n 1, 1) := by decide +kernel
theorem dX9_take_7 : decode cX9_take 7 = .ok (.iconst 0, 1) := by decide +kernel
theorem dX9_take_8 : decode cX9_take 8 = .ok (.istore_n 2, 1) := by decide +kernel
theorem dX9_take_9 : decode cX9_take 9 = .ok (.iload_n 2, 1) := by decide +kernel
theorem dX9_take_10 : decode cX9_take 10 = .ok (.sipush 1000, 3) := by decide +kernel
theorem dX9_take_13 : decode cX9_take 13 = .ok (.if_icmp .ge 26, 3) := by decide +kernel
theorem dX9_take_16 : decode cX9_take 16 = .ok (.iload_n 1, 1) := by decide +kernel
theorem dX9_take_17 : decode cX9_take 17 = .ok (.aload_n 0, 1) := by decide +kernel
theorem dX9_take_18 : decode cX9_take 18 = .ok (.getfield 21, 3) := by decide +kernel
theorem dX9_take_21 : decode cX9_take 21 = .ok (.getfield 29, 3) := by decide +kernel
theorem dX9_take_24 : decode cX9_take 24 = .ok (.if_icmp .ge 15, 3) := by decide +kernel
theorem dX9_take_27 : decode cX9_take 27 = .ok (.aload_n 0, 1) := by decide +kernel
theorem dX9_take_28 : decode cX9_take 28 = .ok (.iload_n 1, 1) := by decide +kernel
theorem dX9_take_29 : decode cX9_take 29 = .ok (.invokevirtual 34, 3) := by decide +kernel
theorem dX9_take_32 : decode cX9_take 32 = .ok (.istore_n 1, 1) := by decide +kernel
theorem dX9_take_33 : decode cX9_take 33 = .ok (.iinc 2 1, 3) := by decide +kernel
theorem dX9_take_36 : decode cX9_take 36 = .ok (.goto (-27), 3) := by decide +kernel
theorem dX9_take_39 : decode cX9_take 39 = .ok (.aload_n 0, 1) := by decide +kernel
theorem dX9_take_40 : decode cX9_take 40 = .ok (.iconst 0, 1) := by decide +kernel
theorem dX9_take_41 : decode cX9_take 41 = .ok (.iconst 0, 1) := by decide +kernel
theorem dX9_take_42 : decode cX9_take 42 = .ok (.aload_n 0, 1) := by decide +kernel
theorem dX9_take_43 : decode cX9_take 43 = .ok (.getfield 21, 3) := by decide +kernel
theorem dX9_take_46 : decode cX9_take 46 = .ok (.getfield 29, 3) := by decide +kernel
theorem dX9_take_49 : decode cX9_take 49 = .ok (.invokevirtual 38, 3) := by decide +kernel
theorem dX9_take_52 : decode cX9_take 52 = .ok (.aload_n 0, 1) := by decide +kernel
theorem dX9_take_53 : decode cX9_take 53 = .ok (.getfield 21, 3) := by decide +kernel
theorem dX9_take_56 : decode cX9_take 56 = .ok (.iconst 0, 1) := by decide +kernel
theorem dX9_take_57 : decode cX9_take 57 = .ok (.putfield 29, 3) := by decide +kernel
theorem dX9_take_60 : decode cX9_take 60 = .ok (.return_, 1) := by decide +kernel
def F_X9_take_b39 (N : Nat) (h : PH) : Option PH :=
  bV (F_X9_add (0 : Int32) (0 : Int32) (h.1 1 1) h) fun h2 =>
  hb (hs h2 1 1 (0 : Int32)) fun h3 =>
  some h3
set_option maxRecDepth 20000 in
set_option maxHeartbeats 4000000 in
theorem T_X9_take_b39 {X : CT} (C : CX X 103 cX9_take 3 RX9 none 7 158) {h0 : PH} {N : Nat} : ∀ (h : PH), F_X9_take_b39 N  h = some h0 → V X (QV X h0) h 39 [some (.ref 10), none, none] [] := by
  intro  h hyp
  unfold F_X9_take_b39 at hyp
  refine V_aload_n (pc := 39) C dX9_take_39 rfl ?_
  refine V_iconst (pc := 40) C dX9_take_40 (v := 0) (by decide) ?_
  refine V_iconst (pc := 41) C dX9_take_41 (v := 0) (by decide) ?_
  refine V_aload_n (pc := 42) C dX9_take_42 rfl ?_
  refine V_getR (pc := 43) C dX9_take_43 lf_X9_21 fk_10_3 ?_
  refine V_getI (pc := 46) C dX9_take_46 lf_X9_29 fk_1_1 ?_
  obtain ⟨h2, eh2, hyp⟩ := bV_n hyp
  refine V_callV (pc := 49) C dX9_take_49 lm_X9_38 mk_X9_add ok_10 rfl (M_X9_add _ eh2) rfl pd_X9_add (by decide) (by decide) (by decide) (As := [.int (0 : Int32), .int (0 : Int32), .int (h.1 1 1)]) (rest := []) rfl (Nat.le_of_ble_eq_true rfl) ?_
  refine V_aload_n (pc := 52) C dX9_take_52 rfl ?_
  refine V_getR (pc := 53) C dX9_take_53 lf_X9_21 fk_10_3 ?_
  refine V_iconst (pc := 56) C dX9_take_56 (v := 0) (by decide) ?_
  obtain ⟨h3, eh3, hyp⟩ := hb_n hyp
  refine V_putI (pc := 57) C dX9_take_57 lf_X9_29 fk_1_1 rfl rfl eh3 ?_
  cases hyp
  exact V_vret C dX9_take_60
def F_X9_take_b9 (N : Nat) : Nat → Int32 → Int32 → PH → Option PH
  | 0, _, _, _ => none
  | n + 1, x1, x2, h =>
    if (1000 : Int32) ≤ x2 then
      F_X9_take_b39 N  h
    else
      if (h.1 1 1) ≤ x1 then
        F_X9_take_b39 N  h
      else
        bI (F_X9_takeOne N x1 h) fun r3 h4 =>
        ib (x2 + (1 : Int32)) fun v5 =>
        F_X9_take_b9 N n r3 v5 h4
set_option maxRecDepth 20000 in
set_option maxHeartbeats 4000000 in
theorem T_X9_take_b9 {X : CT} (C : CX X 103 cX9_take 3 RX9 none 7 158) {h0 : PH} {N : Nat} : ∀ (n : Nat) (x1 : Int32) (x2 : Int32) (h : PH), F_X9_take_b9 N n x1 x2 h = some h0 → V X (QV X h0) h 9 [some (.ref 10), some (.int x1), some (.int x2)] [] := by
  intro n
  induction n with
  | zero =>
    intro x1 x2 h hyp
    cases hyp
  | succ n ih =>
    intro x1 x2 h hyp
    unfold F_X9_take_b9 at hyp
    refine V_iload_n (pc := 9) C dX9_take_9 rfl ?_
    refine V_sipush (pc := 10) C dX9_take_10 (v := 1000) (by decide) ?_
    refine V_icmp_ge (pc := 13) C dX9_take_13 (tgt := 39) (by decide) (fun q1 => ?_) (fun q1 => ?_)
    · replace hyp := (if_pos q1).symm.trans hyp
      refine V_weak (lv' := [some (.ref 10), none, none]) (lvle_s (lvle_n (lvle_n lvle_0))) ?_
      exact (T_X9_take_b39 C) h hyp
    · replace hyp := (if_neg q1).symm.trans hyp
      refine V_iload_n (pc := 16) C dX9_take_16 rfl ?_
      refine V_aload_n (pc := 17) C dX9_take_17 rfl ?_
      refine V_getR (pc := 18) C dX9_take_18 lf_X9_21 fk_10_3 ?_
      refine V_getI (pc := 21) C dX9_take_21 lf_X9_29 fk_1_1 ?_
      refine V_icmp_ge (pc := 24) C dX9_take_24 (tgt := 39) (by decide) (fun q2 => ?_) (fun q2 => ?_)
      · replace hyp := (if_pos q2).symm.trans hyp
        refine V_weak (lv' := [some (.ref 10), none, none]) (lvle_s (lvle_n (lvle_n lvle_0))) ?_
        exact (T_X9_take_b39 C) h hyp
      · replace hyp := (if_neg q2).symm.trans hyp
        refine V_aload_n (pc := 27) C dX9_take_27 rfl ?_
        refine V_iload_n (pc := 28) C dX9_take_28 rfl ?_
        obtain ⟨r3, h4, eh4, hyp⟩ := bI_n hyp
        refine V_callI (pc := 29) C dX9_take_29 lm_X9_34 mk_X9_takeOne ok_10 rfl (M_X9_takeOne _ eh4) rfl pd_X9_takeOne (by decide) (by decide) (by decide) (As := [.int x1]) (rest := []) rfl (Nat.le_of_ble_eq_true rfl) ?_
        refine V_istore_n (pc := 32) C dX9_take_32 (by decide) rfl ?_
        obtain ⟨v5, ev5, hyp⟩ := ib_n hyp
        refine V_iinc (pc := 33) C dX9_take_33 (v := v5) rfl (by rw [ev5]; rfl) (by decide) rfl ?_
        refine V_goto (pc := 36) C dX9_take_36 (tgt := 9) (by decide) ?_
        refine V_weak (lv' := [some (.ref 10), some (.int r3), some (.int v5)]) (lvle_s (lvle_s (lvle_s lvle_0))) ?_
        exact ih r3 v5 h4 hyp
def F_X9_take (N : Nat) (h : PH) : Option PH :=
  hb (hs h 10 4 (0 : Int32)) fun h1 =>
  F_X9_take_b9 N N (0 : Int32) (0 : Int32) h1
set_option maxRecDepth 20000 in
set_option maxHeartbeats 4000000 in
theorem M_X9_take (E : EV) {N : Nat} {h h2 : PH} (hyp : F_X9_take N  h = some h2) : MV E 103 yX9_take cX9_take 3 none 7 158 [.ref 10] h h2 := by
  refine MV.of 2 (by decide) rfl (fun X e1 C => ?_)
  subst e1
  replace C : CX X 103 cX9_take 3 RX9 none 7 158 := C
  show V X _ h 0 [some (.ref 10), none, none] []
  unfold F_X9_take at hyp
  refine V_aload_n (pc := 0) C dX9_take_0 rfl ?_
  refine V_iconst (pc := 1) C dX9_take_1 (v := 0) (by decide) ?_
  obtain ⟨h1, eh1, hyp⟩ := hb_n hyp
  refine V_putI (pc := 2) C dX9_take_2 lf_X9_25 fk_10_4 rfl rfl eh1 ?_
  refine V_iconst (pc := 5) C dX9_take_5 (v := 0) (by decide) ?_
  refine V_istore_n (pc := 6) C dX9_take_6 (by decide) rfl ?_
  refine V_iconst (pc := 7) C dX9_take_7 (v := 0) (by decide) ?_
  refine V_istore_n (pc := 8) C dX9_take_8 (by decide) rfl ?_
  refine V_weak (lv' := [some (.ref 10), some (.int (0 : Int32)), some (.int (0 : Int32))]) (lvle_s (lvle_s (lvle_s lvle_0))) ?_
  exact (T_X9_take_b9 C) N (0 : Int32) (0 : Int32) h1 hyp
