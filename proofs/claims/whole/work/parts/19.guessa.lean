theorem dX3_forget_0 : decode cX3_forget 0 = .ok (.aload_n 0, 1) := by decide +kernel
theorem dX3_forget_1 : decode cX3_forget 1 = .ok (.iconst 0, 1) := by decide +kernel
theorem dX3_forget_2 : decode cX3_forget 2 = .ok (.putfield 39, 3) := by decide +kernel
theorem dX3_forget_5 : decode cX3_forget 5 = .ok (.aload_n 0, 1) := by decide +kernel
theorem dX3_forget_6 : decode cX3_forget 6 = .ok (.iconst 0, 1) := by decide +kernel
theorem dX3_forget_7 : decode cX3_forget 7 = .ok (.putfield 43, 3) := by decide +kernel
theorem dX3_forget_10 : decode cX3_forget 10 = .ok (.aload_n 0, 1) := by decide +kernel
theorem dX3_forget_11 : decode cX3_forget 11 = .ok (.iconst 0, 1) := by decide +kernel
theorem dX3_forget_12 : decode cX3_forget 12 = .ok (.putfield 47, 3) := by decide +kernel
theorem dX3_forget_15 : decode cX3_forget 15 = .ok (.return_, 1) := by decide +kernel
def F_X3_forget (h : PH) : Option PH :=
  hb (hs h 39 0 (0 : Int32)) fun h1 =>
  hb (hs h1 39 1 (0 : Int32)) fun h2 =>
  hb (hs h2 39 12 (0 : Int32)) fun h3 =>
  some h3
set_option maxRecDepth 20000 in
set_option maxHeartbeats 4000000 in
theorem M_X3_forget (E : EV) {h h2 : PH} (hyp : F_X3_forget  h = some h2) : MV E 103 yX3_forget cX3_forget 1 none 0 0 [.ref 39] h h2 := by
  refine MV.of 0 (by decide) rfl (fun X e1 C => ?_)
  subst e1
  replace C : CX X 103 cX3_forget 1 RX3 none 0 0 := C
  show V X _ h 0 [some (.ref 39)] []
  unfold F_X3_forget at hyp
  refine V_aload_n (pc := 0) C dX3_forget_0 rfl ?_
  refine V_iconst (pc := 1) C dX3_forget_1 (v := 0) (by decide) ?_
  obtain ⟨h1, eh1, hyp⟩ := hb_n hyp
  refine V_putI (pc := 2) C dX3_forget_2 lf_X3_39 fk_39_0 rfl rfl eh1 ?_
  refine V_aload_n (pc := 5) C dX3_forget_5 rfl ?_
  refine V_iconst (pc := 6) C dX3_forget_6 (v := 0) (by decide) ?_
  obtain ⟨h2, eh2, hyp⟩ := hb_n hyp
  refine V_putI (pc := 7) C dX3_forget_7 lf_X3_43 fk_39_1 rfl rfl eh2 ?_
  refine V_aload_n (pc := 10) C dX3_forget_10 rfl ?_
  refine V_iconst (pc := 11) C dX3_forget_11 (v := 0) (by decide) ?_
  obtain ⟨h3, eh3, hyp⟩ := hb_n hyp
  refine V_putI (pc := 12) C dX3_forget_12 lf_X3_47 fk_39_12 rfl rfl eh3 ?_
  cases hyp
  exact V_vret C dX3_forget_15
theorem dX3_start_0 : decode cX3_start 0 = .ok (.aload_n 0, 1) := by decide +kernel
theorem dX3_start_1 : decode cX3_start 1 = .ok (.iconst 1, 1) := by decide +kernel
theorem dX3_start_2 : decode cX3_start 2 = .ok (.putfield 39, 3) := by decide +kernel
theorem dX3_start_5 : decode cX3_start 5 = .ok (.aload_n 0, 1) := by decide +kernel
theorem dX3_start_6 : decode cX3_start 6 = .ok (.iconst 0, 1) := by decide +kernel
theorem dX3_start_7 : decode cX3_start 7 = .ok (.putfield 47, 3) := by decide +kernel
theorem dX3_start_10 : decode cX3_start 10 = .ok (.aload_n 0, 1) := by decide +kernel
theorem dX3_start_11 : decode cX3_start 11 = .ok (.iconst 0, 1) := by decide +kernel
theorem dX3_start_12 : decode cX3_start 12 = .ok (.putfield 43, 3) := by decide +kernel
theorem dX3_start_15 : decode cX3_start 15 = .ok (.aload_n 0, 1) := by decide +kernel
theorem dX3_start_16 : decode cX3_start 16 = .ok (.getfield 35, 3) := by decide +kernel
theorem dX3_start_19 : decode cX3_start 19 = .ok (.invokevirtual 50, 3) := by decide +kernel
theorem dX3_start_22 : decode cX3_start 22 = .ok (.istore_n 2, 1) := by decide +kernel
theorem dX3_start_23 : decode cX3_start 23 = .ok (.iconst 0, 1) := by decide +kernel
theorem dX3_start_24 : decode cX3_start 24 = .ok (.istore_n 3, 1) := by decide +kernel
theorem dX3_start_25 : decode cX3_start 25 = .ok (.iload_n 3, 1) := by decide +kernel
theorem dX3_start_26 : decode cX3_start 26 = .ok (.iload_n 2, 1) := by decide +kernel
theorem dX3_start_27 : decode cX3_start 27 = .ok (.if_icmp .ge 48, 3) := by decide +kernel
theorem dX3_start_30 : decode cX3_start 30 = .ok (.iload_n 3, 1) := by decide +kernel
theorem dX3_start_31 : decode cX3_start 31 = .ok (.sipush 3072, 3) := by decide +kernel
theorem dX3_start_34 : decode cX3_start 34 = .ok (.if_icmp .ge 41, 3) := by decide +kernel
theorem dX3_start_37 : decode cX3_start 37 = .ok (.aload_n 0, 1) := by decide +kernel
theorem dX3_start_38 : decode cX3_start 38 = .ok (.getfield 35, 3) := by decide +kernel
theorem dX3_start_41 : decode cX3_start 41 = .ok (.iload_n 3, 1) := by decide +kernel
theorem dX3_start_42 : decode cX3_start 42 = .ok (.invokevirtual 56, 3) := by decide +kernel
theorem dX3_start_45 : decode cX3_start 45 = .ok (.iload_n 1, 1) := by decide +kernel
theorem dX3_start_46 : decode cX3_start 46 = .ok (.if_icmp .ne 23, 3) := by decide +kernel
theorem dX3_start_49 : decode cX3_start 49 = .ok (.aload_n 0, 1) := by decide +kernel
theorem dX3_start_50 : decode cX3_start 50 = .ok (.getfield 18, 3) := by decide +kernel
theorem dX3_start_53 : decode cX3_start 53 = .ok (.aload_n 0, 1) := by decide +kernel
theorem dX3_start_54 : decode cX3_start 54 = .ok (.getfield 43, 3) := by decide +kernel
theorem dX3_start_57 : decode cX3_start 57 = .ok (.iload_n 3, 1) := by decide +kernel
theorem dX3_start_58 : decode cX3_start 58 = .ok (.iastore, 1) := by decide +kernel
theorem dX3_start_59 : decode cX3_start 59 = .ok (.aload_n 0, 1) := by decide +kernel
theorem dX3_start_60 : decode cX3_start 60 = .ok (.dup, 1) := by decide +kernel
theorem dX3_start_61 : decode cX3_start 61 = .ok (.getfield 43, 3) := by decide +kernel
theorem dX3_start_64 : decode cX3_start 64 = .ok (.iconst 1, 1) := by decide +kernel
theorem dX3_start_65 : decode cX3_start 65 = .ok (.iadd, 1) := by decide +kernel
theorem dX3_start_66 : decode cX3_start 66 = .ok (.putfield 43, 3) := by decide +kernel
theorem dX3_start_69 : decode cX3_start 69 = .ok (.iinc 3 1, 3) := by decide +kernel
theorem dX3_start_72 : decode cX3_start 72 = .ok (.goto (-47), 3) := by decide +kernel
theorem dX3_start_75 : decode cX3_start 75 = .ok (.aload_n 0, 1) := by decide +kernel
theorem dX3_start_76 : decode cX3_start 76 = .ok (.getfield 43, 3) := by decide +kernel
theorem dX3_start_79 : decode cX3_start 79 = .ok (.ireturn, 1) := by decide +kernel
def F_X3_start_b69 (N : Nat) (rc25 : Int32 → Int32 → Int32 → PH → Option (Int32 × PH)) (x1 : Int32) (x2 : Int32) (x3 : Int32) (h : PH) : Option (Int32 × PH) :=
  ib (x3 + (1 : Int32)) fun v1 =>
  rc25 x1 x2 v1 h
set_option maxRecDepth 20000 in
set_option maxHeartbeats 4000000 in
theorem T_X3_start_b69 {X : CT} (C : CX X 103 cX3_start 4 RX3 (some .int) 6 140) {r0 : Int32} {h0 : PH} {N : Nat} {rc25 : Int32 → Int32 → Int32 → PH → Option (Int32 × PH)} (hr25 : ∀ (x1 : Int32) (x2 : Int32) (x3 : Int32) (h : PH), rc25 x1 x2 x3 h = some (r0, h0) → V X (QI X r0 h0) h 25 [some (.ref 39), some (.int x1), some (.int x2), some (.int x3)] []) : ∀ (x1 : Int32) (x2 : Int32) (x3 : Int32) (h : PH), F_X3_start_b69 N rc25 x1 x2 x3 h = some (r0, h0) → V X (QI X r0 h0) h 69 [some (.ref 39), some (.int x1), some (.int x2), some (.int x3)] [] := by
  intro x1 x2 x3 h hyp
  unfold F_X3_start_b69 at hyp
  obtain ⟨v1, ev1, hyp⟩ := ib_n hyp
  refine V_iinc (pc := 69) C dX3_start_69 (v := v1) rfl (by rw [ev1]; rfl) (by decide) rfl ?_
  refine V_goto (pc := 72) C dX3_start_72 (tgt := 25) (by decide) ?_
  refine V_weak (lv' := [some (.ref 39), some (.int x1), some (.int x2), some (.int v1)]) (lvle_s (lvle_s (lvle_s (lvle_s lvle_0)))) ?_
  exact hr25 x1 x2 v1 h hyp
def F_X3_start_b25 (N : Nat) : Nat → Int32 → Int32 → Int32 → PH → Option (Int32 × PH)
  | 0, _, _, _, _ => none
  | n + 1, x1, x2, x3, h =>
    if x2 ≤ x3 then
      some (h.1 39 1, h)
    else
      if (3072 : Int32) ≤ x3 then
        some (h.1 39 1, h)
      else
        bI (F_X0_lampsAt x3 h) fun r3 h4 =>
        if r3 = x1 then
          if inb (h4.1 39 1) 3072 = true then
          hb (hs h4 42 (h4.1 39 1).toNatClampNeg x3) fun h7 =>
          hb (hs h7 39 1 ((h7.1 39 1) + (1 : Int32))) fun h8 =>
          F_X3_start_b69 N (F_X3_start_b25 N n) x1 x2 x3 h8
          else none
        else
          F_X3_start_b69 N (F_X3_start_b25 N n) x1 x2 x3 h4
set_option maxRecDepth 20000 in
set_option maxHeartbeats 4000000 in
theorem T_X3_start_b25 {X : CT} (C : CX X 103 cX3_start 4 RX3 (some .int) 6 140) {r0 : Int32} {h0 : PH} {N : Nat} : ∀ (n : Nat) (x1 : Int32) (x2 : Int32) (x3 : Int32) (h : PH), F_X3_start_b25 N n x1 x2 x3 h = some (r0, h0) → V X (QI X r0 h0) h 25 [some (.ref 39), some (.int x1), some (.int x2), some (.int x3)] [] := by
  intro n
  induction n with
  | zero =>
    intro x1 x2 x3 h hyp
    cases hyp
  | succ n ih =>
    intro x1 x2 x3 h hyp
    unfold F_X3_start_b25 at hyp
    refine V_iload_n (pc := 25) C dX3_start_25 rfl ?_
    refine V_iload_n (pc := 26) C dX3_start_26 rfl ?_
    refine V_icmp_ge (pc := 27) C dX3_start_27 (tgt := 75) (by decide) (fun q1 => ?_) (fun q1 => ?_)
    · replace hyp := (if_pos q1).symm.trans hyp
      refine V_aload_n (pc := 75) C dX3_start_75 rfl ?_
      refine V_getI (pc := 76) C dX3_start_76 lf_X3_43 fk_39_1 ?_
      cases hyp
      exact V_iret C dX3_start_79
    · replace hyp := (if_neg q1).symm.trans hyp
      refine V_iload_n (pc := 30) C dX3_start_30 rfl ?_
      refine V_sipush (pc := 31) C dX3_start_31 (v := 3072) (by decide) ?_
      refine V_icmp_ge (pc := 34) C dX3_start_34 (tgt := 75) (by decide) (fun q2 => ?_) (fun q2 => ?_)
      · replace hyp := (if_pos q2).symm.trans hyp
        refine V_aload_n (pc := 75) C dX3_start_75 rfl ?_
        refine V_getI (pc := 76) C dX3_start_76 lf_X3_43 fk_39_1 ?_
        cases hyp
        exact V_iret C dX3_start_79
      · replace hyp := (if_neg q2).symm.trans hyp
        refine V_aload_n (pc := 37) C dX3_start_37 rfl ?_
        refine V_getR (pc := 38) C dX3_start_38 lf_X3_35 fk_39_4 ?_
        refine V_iload_n (pc := 41) C dX3_start_41 rfl ?_
        obtain ⟨r3, h4, eh4, hyp⟩ := bI_n hyp
        refine V_callI (pc := 42) C dX3_start_42 lm_X3_56 mk_X0_lampsAt ok_21 rfl (M_X0_lampsAt _ eh4) rfl pd_X0_lampsAt (by decide) (by decide) (by decide) (As := [.int x3]) (rest := []) rfl (Nat.le_of_ble_eq_true rfl) ?_
        refine V_iload_n (pc := 45) C dX3_start_45 rfl ?_
        refine V_icmp_ne (pc := 46) C dX3_start_46 (tgt := 69) (by decide) (fun q5 => ?_) (fun q5 => ?_)
        · replace hyp := (if_neg q5).symm.trans hyp
          refine V_weak (lv' := [some (.ref 39), some (.int x1), some (.int x2), some (.int x3)]) (lvle_s (lvle_s (lvle_s (lvle_s lvle_0)))) ?_
          exact (T_X3_start_b69 C ih) x1 x2 x3 h4 hyp
        · replace hyp := (if_pos q5).symm.trans hyp
          refine V_aload_n (pc := 49) C dX3_start_49 rfl ?_
          refine V_getR (pc := 50) C dX3_start_50 lf_X3_18 fk_39_7 ?_
          refine V_aload_n (pc := 53) C dX3_start_53 rfl ?_
          refine V_getI (pc := 54) C dX3_start_54 lf_X3_43 fk_39_1 ?_
          refine V_iload_n (pc := 57) C dX3_start_57 rfl ?_
          obtain ⟨g6, hyp⟩ := gd_n hyp
          obtain ⟨h7, eh7, hyp⟩ := hb_n hyp
          refine V_iast (pc := 58) C dX3_start_58 ak_42 g6 eh7 ?_
          refine V_aload_n (pc := 59) C dX3_start_59 rfl ?_
          refine V_dup (pc := 60) C dX3_start_60 rfl ?_
          refine V_getI (pc := 61) C dX3_start_61 lf_X3_43 fk_39_1 ?_
          refine V_iconst (pc := 64) C dX3_start_64 (v := 1) (by decide) ?_
          refine V_iadd (pc := 65) C dX3_start_65 ?_
          obtain ⟨h8, eh8, hyp⟩ := hb_n hyp
          refine V_putI (pc := 66) C dX3_start_66 lf_X3_43 fk_39_1 rfl rfl eh8 ?_
          refine V_weak (lv' := [some (.ref 39), some (.int x1), some (.int x2), some (.int x3)]) (lvle_s (lvle_s (lvle_s (lvle_s lvle_0)))) ?_
          exact (T_X3_start_b69 C ih) x1 x2 x3 h8 hyp
def F_X3_start (N : Nat) (a1 : Int32) (h : PH) : Option (Int32 × PH) :=
  hb (hs h 39 0 (1 : Int32)) fun h1 =>
  hb (hs h1 39 12 (0 : Int32)) fun h2 =>
  hb (hs h2 39 1 (0 : Int32)) fun h3 =>
  bI (F_X0_howMany N  h3) fun r4 h5 =>
  F_X3_start_b25 N N a1 r4 (0 : Int32) h5
set_option maxRecDepth 20000 in
set_option maxHeartbeats 4000000 in
theorem M_X3_start (E : EV) {N : Nat} {a1 : Int32} {r : Int32} {h h2 : PH} (hyp : F_X3_start N a1 h = some (r, h2)) : MI E 103 yX3_start cX3_start 4 (some .int) 6 140 [.ref 39, .int a1] h r h2 := by
  refine MI.of 2 (by decide) rfl (fun X e1 C => ?_)
  subst e1
  replace C : CX X 103 cX3_start 4 RX3 (some .int) 6 140 := C
  show V X _ h 0 [some (.ref 39), some (.int a1), none, none] []
  unfold F_X3_start at hyp
  refine V_aload_n (pc := 0) C dX3_start_0 rfl ?_
  refine V_iconst (pc := 1) C dX3_start_1 (v := 1) (by decide) ?_
  obtain ⟨h1, eh1, hyp⟩ := hb_n hyp
  refine V_putI (pc := 2) C dX3_start_2 lf_X3_39 fk_39_0 rfl rfl eh1 ?_
  refine V_aload_n (pc := 5) C dX3_start_5 rfl ?_
  refine V_iconst (pc := 6) C dX3_start_6 (v := 0) (by decide) ?_
  obtain ⟨h2, eh2, hyp⟩ := hb_n hyp
  refine V_putI (pc := 7) C dX3_start_7 lf_X3_47 fk_39_12 rfl rfl eh2 ?_
  refine V_aload_n (pc := 10) C dX3_start_10 rfl ?_
  refine V_iconst (pc := 11) C dX3_start_11 (v := 0) (by decide) ?_
  obtain ⟨h3, eh3, hyp⟩ := hb_n hyp
  refine V_putI (pc := 12) C dX3_start_12 lf_X3_43 fk_39_1 rfl rfl eh3 ?_
  refine V_aload_n (pc := 15) C dX3_start_15 rfl ?_
  refine V_getR (pc := 16) C dX3_start_16 lf_X3_35 fk_39_4 ?_
  obtain ⟨r4, h5, eh5, hyp⟩ := bI_n hyp
  refine V_callI (pc := 19) C dX3_start_19 lm_X3_50 mk_X0_howMany ok_21 rfl (M_X0_howMany _ eh5) rfl pd_X0_howMany (by decide) (by decide) (by decide) (As := []) (rest := []) rfl (Nat.le_of_ble_eq_true rfl) ?_
  refine V_istore_n (pc := 22) C dX3_start_22 (by decide) rfl ?_
  refine V_iconst (pc := 23) C dX3_start_23 (v := 0) (by decide) ?_
  refine V_istore_n (pc := 24) C dX3_start_24 (by decide) rfl ?_
  refine V_weak (lv' := [some (.ref 39), some (.int a1), some (.int r4), some (.int (0 : Int32))]) (lvle_s (lvle_s (lvle_s (lvle_s lvle_0)))) ?_
  exact (T_X3_start_b25 C) N a1 r4 (0 : Int32) h5 hyp
theorem dX3_follow_0 : decode cX3_follow 0 = .ok (.aload_n 0, 1) := by decide +kernel
theorem dX3_follow_1 : decode cX3_follow 1 = .ok (.iconst 0, 1) := by decide +kernel
theorem dX3_follow_2 : decode cX3_follow 2 = .ok (.putfield 47, 3) := by decide +kernel
theorem dX3_follow_5 : decode cX3_follow 5 = .ok (.aload_n 0, 1) := by decide +kernel
theorem dX3_follow_6 : decode cX3_follow 6 = .ok (.dup, 1) := by decide +kernel
theorem dX3_follow_7 : decode cX3_follow 7 = .ok (.getfield 60, 3) := by decide +kernel
theorem dX3_follow_10 : decode cX3_follow 10 = .ok (.iconst 1, 1) := by decide +kernel
theorem dX3_follow_11 : decode cX3_follow 11 = .ok (.iadd, 1) := by decide +kernel
theorem dX3_follow_12 : decode cX3_follow 12 = .ok (.putfield 60, 3) := by decide +kernel
theorem dX3_follow_15 : decode cX3_follow 15 = .ok (.iconst 0, 1) := by decide +kernel
theorem dX3_follow_16 : decode cX3_follow 16 = .ok (.istore_n 3, 1) := by decide +kernel
theorem dX3_follow_17 : decode cX3_follow 17 = .ok (.iconst 0, 1) := by decide +kernel
theorem dX3_follow_18 : decode cX3_follow 18 = .ok (.istore 4, 2) := by decide +kernel
theorem dX3_follow_20 : decode cX3_follow 20 = .ok (.iload 4, 2) := by decide +kernel
theorem dX3_follow_22 : decode cX3_follow 22 = .ok (.aload_n 0, 1) := by decide +kernel
theorem dX3_follow_23 : decode cX3_follow 23 = .ok (.getfield 43, 3) := by decide +kernel
theorem dX3_follow_26 : decode cX3_follow 26 = .ok (.if_icmp .ge 75, 3) := by decide +kernel
theorem dX3_follow_29 : decode cX3_follow 29 = .ok (.aload_n 0, 1) := by decide +kernel
theorem dX3_follow_30 : decode cX3_follow 30 = .ok (.getfield 35, 3) := by decide +kernel
theorem dX3_follow_33 : decode cX3_follow 33 = .ok (.aload_n 0, 1) := by decide +kernel
theorem dX3_follow_34 : decode cX3_follow 34 = .ok (.getfield 18, 3) := by decide +kernel
theorem dX3_follow_37 : decode cX3_follow 37 = .ok (.iload 4, 2) := by decide +kernel
theorem dX3_follow_39 : decode cX3_follow 39 = .ok (.iaload, 1) := by decide +kernel
theorem dX3_follow_40 : decode cX3_follow 40 = .ok (.iload_n 1, 1) := by decide +kernel
theorem dX3_follow_41 : decode cX3_follow 41 = .ok (.invokevirtual 63, 3) := by decide +kernel
theorem dX3_follow_44 : decode cX3_follow 44 = .ok (.istore 5, 2) := by decide +kernel
theorem dX3_follow_46 : decode cX3_follow 46 = .ok (.aload_n 0, 1) := by decide +kernel
theorem dX3_follow_47 : decode cX3_follow 47 = .ok (.getfield 21, 3) := by decide +kernel
theorem dX3_follow_50 : decode cX3_follow 50 = .ok (.iload 5, 2) := by decide +kernel
theorem dX3_follow_52 : decode cX3_follow 52 = .ok (.iaload, 1) := by decide +kernel
theorem dX3_follow_53 : decode cX3_follow 53 = .ok (.aload_n 0, 1) := by decide +kernel
theorem dX3_follow_54 : decode cX3_follow 54 = .ok (.getfield 60, 3) := by decide +kernel
theorem dX3_follow_57 : decode cX3_follow 57 = .ok (.if_icmp .eq 38, 3) := by decide +kernel
theorem dX3_follow_60 : decode cX3_follow 60 = .ok (.aload_n 0, 1) := by decide +kernel
theorem dX3_follow_61 : decode cX3_follow 61 = .ok (.getfield 35, 3) := by decide +kernel
theorem dX3_follow_64 : decode cX3_follow 64 = .ok (.iload 5, 2) := by decide +kernel
theorem dX3_follow_66 : decode cX3_follow 66 = .ok (.invokevirtual 56, 3) := by decide +kernel
theorem dX3_follow_69 : decode cX3_follow 69 = .ok (.iload_n 2, 1) := by decide +kernel
theorem dX3_follow_70 : decode cX3_follow 70 = .ok (.if_icmp .ne 25, 3) := by decide +kernel
theorem dX3_follow_73 : decode cX3_follow 73 = .ok (.aload_n 0, 1) := by decide +kernel
theorem dX3_follow_74 : decode cX3_follow 74 = .ok (.getfield 21, 3) := by decide +kernel
theorem dX3_follow_77 : decode cX3_follow 77 = .ok (.iload 5, 2) := by decide +kernel
theorem dX3_follow_79 : decode cX3_follow 79 = .ok (.aload_n 0, 1) := by decide +kernel
theorem dX3_follow_80 : decode cX3_follow 80 = .ok (.getfield 60, 3) := by decide +kernel
theorem dX3_follow_83 : decode cX3_follow 83 = .ok (.iastore, 1) := by decide +kernel
theorem dX3_follow_84 : decode cX3_follow 84 = .ok (.aload_n 0, 1) := by decide +kernel
theorem dX3_follow_85 : decode cX3_follow 85 = .ok (.getfield 18, 3) := by decide +kernel
theorem dX3_follow_88 : decode cX3_follow 88 = .ok (.iload_n 3, 1) := by decide +kernel
theorem dX3_follow_89 : decode cX3_follow 89 = .ok (.iload 5, 2) := by decide +kernel
theorem dX3_follow_91 : decode cX3_follow 91 = .ok (.iastore, 1) := by decide +kernel
theorem dX3_follow_92 : decode cX3_follow 92 = .ok (.iinc 3 1, 3) := by decide +kernel
theorem dX3_follow_95 : decode cX3_follow 95 = .ok (.iinc 4 1, 3) := by decide +kernel
theorem dX3_follow_98 : decode cX3_follow 98 = .ok (.goto (-78), 3) := by decide +kernel
theorem dX3_follow_101 : decode cX3_follow 101 = .ok (.aload_n 0, 1) := by decide +kernel
theorem dX3_follow_102 : decode cX3_follow 102 = .ok (.iload_n 3, 1) := by decide +kernel
theorem dX3_follow_103 : decode cX3_follow 103 = .ok (.putfield 43, 3) := by decide +kernel
theorem dX3_follow_106 : decode cX3_follow 106 = .ok (.aload_n 0, 1) := by decide +kernel
theorem dX3_follow_107 : decode cX3_follow 107 = .ok (.getfield 43, 3) := by decide +kernel
theorem dX3_follow_110 : decode cX3_follow 110 = .ok (.ireturn, 1) := by decide +kernel
def F_X3_follow_b95 (N : Nat) (rc20 : Int32 → Int32 → Int32 → Int32 → PH → Option (Int32 × PH)) (x1 : Int32) (x2 : Int32) (x3 : Int32) (x4 : Int32) (h : PH) : Option (Int32 × PH) :=
  ib (x4 + (1 : Int32)) fun v1 =>
  rc20 x1 x2 x3 v1 h
set_option maxRecDepth 20000 in
set_option maxHeartbeats 4000000 in
theorem T_X3_follow_b95 {X : CT} (C : CX X 103 cX3_follow 6 RX3 (some .int) 1 22) {r0 : Int32} {h0 : PH} {N : Nat} {rc20 : Int32 → Int32 → Int32 → Int32 → PH → Option (Int32 × PH)} (hr20 : ∀ (x1 : Int32) (x2 : Int32) (x3 : Int32) (x4 : Int32) (h : PH), rc20 x1 x2 x3 x4 h = some (r0, h0) → V X (QI X r0 h0) h 20 [some (.ref 39), some (.int x1), some (.int x2), some (.int x3), some (.int x4), none] []) : ∀ (x1 : Int32) (x2 : Int32) (x3 : Int32) (x4 : Int32) (h : PH), F_X3_follow_b95 N rc20 x1 x2 x3 x4 h = some (r0, h0) → V X (QI X r0 h0) h 95 [some (.ref 39), some (.int x1), some (.int x2), some (.int x3), some (.int x4), none] [] := by
  intro x1 x2 x3 x4 h hyp
  unfold F_X3_follow_b95 at hyp
  obtain ⟨v1, ev1, hyp⟩ := ib_n hyp
  refine V_iinc (pc := 95) C dX3_follow_95 (v := v1) rfl (by rw [ev1]; rfl) (by decide) rfl ?_
  refine V_goto (pc := 98) C dX3_follow_98 (tgt := 20) (by decide) ?_
  refine V_weak (lv' := [some (.ref 39), some (.int x1), some (.int x2), some (.int x3), some (.int v1), none]) (lvle_s (lvle_s (lvle_s (lvle_s (lvle_s (lvle_n lvle_0)))))) ?_
  exact hr20 x1 x2 x3 v1 h hyp
def F_X3_follow_b101 (N : Nat) (x3 : Int32) (h : PH) : Option (Int32 × PH) :=
  hb (hs h 39 1 x3) fun h1 =>
  some (h1.1 39 1, h1)
set_option maxRecDepth 20000 in
set_option maxHeartbeats 4000000 in
theorem T_X3_follow_b101 {X : CT} (C : CX X 103 cX3_follow 6 RX3 (some .int) 1 22) {r0 : Int32} {h0 : PH} {N : Nat} : ∀ (x3 : Int32) (h : PH), F_X3_follow_b101 N x3 h = some (r0, h0) → V X (QI X r0 h0) h 101 [some (.ref 39), none, none, some (.int x3), none, none] [] := by
  intro x3 h hyp
  unfold F_X3_follow_b101 at hyp
  refine V_aload_n (pc := 101) C dX3_follow_101 rfl ?_
  refine V_iload_n (pc := 102) C dX3_follow_102 rfl ?_
  obtain ⟨h1, eh1, hyp⟩ := hb_n hyp
  refine V_putI (pc := 103) C dX3_follow_103 lf_X3_43 fk_39_1 rfl rfl eh1 ?_
  refine V_aload_n (pc := 106) C dX3_follow_106 rfl ?_
  refine V_getI (pc := 107) C dX3_follow_107 lf_X3_43 fk_39_1 ?_
  cases hyp
  exact V_iret C dX3_follow_110
def F_X3_follow_b20 (N : Nat) : Nat → Int32 → Int32 → Int32 → Int32 → PH → Option (Int32 × PH)
  | 0, _, _, _, _, _ => none
  | n + 1, x1, x2, x3, x4, h =>
    if (h.1 39 1) ≤ x4 then
      F_X3_follow_b101 N x3 h
    else
      if inb x4 3072 = true then
      bI (F_X0_behind (h.1 42 x4.toNatClampNeg) x1 h) fun r3 h4 =>
      if inb r3 3072 = true then
      if (h4.1 43 r3.toNatClampNeg) = (h4.1 39 13) then
        F_X3_follow_b95 N (F_X3_follow_b20 N n) x1 x2 x3 x4 h4
      else
        bI (F_X0_lampsAt r3 h4) fun r7 h8 =>
        if r7 = x2 then
          if inb r3 3072 = true then
          hb (hs h8 43 r3.toNatClampNeg (h8.1 39 13)) fun h11 =>
          if inb x3 3072 = true then
          hb (hs h11 42 x3.toNatClampNeg r3) fun h13 =>
          ib (x3 + (1 : Int32)) fun v14 =>
          F_X3_follow_b95 N (F_X3_follow_b20 N n) x1 x2 v14 x4 h13
          else none
          else none
        else
          F_X3_follow_b95 N (F_X3_follow_b20 N n) x1 x2 x3 x4 h8
      else none
      else none
set_option maxRecDepth 20000 in
set_option maxHeartbeats 4000000 in
theorem T_X3_follow_b20 {X : CT} (C : CX X 103 cX3_follow 6 RX3 (some .int) 1 22) {r0 : Int32} {h0 : PH} {N : Nat} : ∀ (n : Nat) (x1 : Int32) (x2 : Int32) (x3 : Int32) (x4 : Int32) (h : PH), F_X3_follow_b20 N n x1 x2 x3 x4 h = some (r0, h0) → V X (QI X r0 h0) h 20 [some (.ref 39), some (.int x1), some (.int x2), some (.int x3), some (.int x4), none] [] := by
  intro n
  induction n with
  | zero =>
    intro x1 x2 x3 x4 h hyp
    cases hyp
  | succ n ih =>
    intro x1 x2 x3 x4 h hyp
    unfold F_X3_follow_b20 at hyp
    refine V_iload (pc := 20) C dX3_follow_20 rfl ?_
    refine V_aload_n (pc := 22) C dX3_follow_22 rfl ?_
    refine V_getI (pc := 23) C dX3_follow_23 lf_X3_43 fk_39_1 ?_
    refine V_icmp_ge (pc := 26) C dX3_follow_26 (tgt := 101) (by decide) (fun q1 => ?_) (fun q1 => ?_)
    · replace hyp := (if_pos q1).symm.trans hyp
      refine V_weak (lv' := [some (.ref 39), none, none, some (.int x3), none, none]) (lvle_s (lvle_n (lvle_n (lvle_s (lvle_n (lvle_n lvle_0)))))) ?_
      exact (T_X3_follow_b101 C) x3 h hyp
    · replace hyp := (if_neg q1).symm.trans hyp
      refine V_aload_n (pc := 29) C dX3_follow_29 rfl ?_
      refine V_getR (pc := 30) C dX3_follow_30 lf_X3_35 fk_39_4 ?_
      refine V_aload_n (pc := 33) C dX3_follow_33 rfl ?_
      refine V_getR (pc := 34) C dX3_follow_34 lf_X3_18 fk_39_7 ?_
      refine V_iload (pc := 37) C dX3_follow_37 rfl ?_
      obtain ⟨g2, hyp⟩ := gd_n hyp
      refine V_iald (pc := 39) C dX3_follow_39 ak_42 g2 ?_
      refine V_iload_n (pc := 40) C dX3_follow_40 rfl ?_
      obtain ⟨r3, h4, eh4, hyp⟩ := bI_n hyp
      refine V_callI (pc := 41) C dX3_follow_41 lm_X3_63 mk_X0_behind ok_21 rfl (M_X0_behind _ eh4) rfl pd_X0_behind (by decide) (by decide) (by decide) (As := [.int (h.1 42 x4.toNatClampNeg), .int x1]) (rest := []) rfl (Nat.le_of_ble_eq_true rfl) ?_
      refine V_istore (pc := 44) C dX3_follow_44 (by decide) rfl ?_
      refine V_aload_n (pc := 46) C dX3_follow_46 rfl ?_
      refine V_getR (pc := 47) C dX3_follow_47 lf_X3_21 fk_39_8 ?_
      refine V_iload (pc := 50) C dX3_follow_50 rfl ?_
      obtain ⟨g5, hyp⟩ := gd_n hyp
      refine V_iald (pc := 52) C dX3_follow_52 ak_43 g5 ?_
      refine V_aload_n (pc := 53) C dX3_follow_53 rfl ?_
      refine V_getI (pc := 54) C dX3_follow_54 lf_X3_60 fk_39_13 ?_
      refine V_icmp_eq (pc := 57) C dX3_follow_57 (tgt := 95) (by decide) (fun q6 => ?_) (fun q6 => ?_)
      · replace hyp := (if_pos q6).symm.trans hyp
        refine V_weak (lv' := [some (.ref 39), some (.int x1), some (.int x2), some (.int x3), some (.int x4), none]) (lvle_s (lvle_s (lvle_s (lvle_s (lvle_s (lvle_n lvle_0)))))) ?_
        exact (T_X3_follow_b95 C ih) x1 x2 x3 x4 h4 hyp
      · replace hyp := (if_neg q6).symm.trans hyp
        refine V_aload_n (pc := 60) C dX3_follow_60 rfl ?_
        refine V_getR (pc := 61) C dX3_follow_61 lf_X3_35 fk_39_4 ?_
        refine V_iload (pc := 64) C dX3_follow_64 rfl ?_
        obtain ⟨r7, h8, eh8, hyp⟩ := bI_n hyp
        refine V_callI (pc := 66) C dX3_follow_66 lm_X3_56 mk_X0_lampsAt ok_21 rfl (M_X0_lampsAt _ eh8) rfl pd_X0_lampsAt (by decide) (by decide) (by decide) (As := [.int r3]) (rest := []) rfl (Nat.le_of_ble_eq_true rfl) ?_
        refine V_iload_n (pc := 69) C dX3_follow_69 rfl ?_
        refine V_icmp_ne (pc := 70) C dX3_follow_70 (tgt := 95) (by decide) (fun q9 => ?_) (fun q9 => ?_)
        · replace hyp := (if_neg q9).symm.trans hyp
          refine V_weak (lv' := [some (.ref 39), some (.int x1), some (.int x2), some (.int x3), some (.int x4), none]) (lvle_s (lvle_s (lvle_s (lvle_s (lvle_s (lvle_n lvle_0)))))) ?_
          exact (T_X3_follow_b95 C ih) x1 x2 x3 x4 h8 hyp
        · replace hyp := (if_pos q9).symm.trans hyp
          refine V_aload_n (pc := 73) C dX3_follow_73 rfl ?_
          refine V_getR (pc := 74) C dX3_follow_74 lf_X3_21 fk_39_8 ?_
          refine V_iload (pc := 77) C dX3_follow_77 rfl ?_
          refine V_aload_n (pc := 79) C dX3_follow_79 rfl ?_
          refine V_getI (pc := 80) C dX3_follow_80 lf_X3_60 fk_39_13 ?_
          obtain ⟨g10, hyp⟩ := gd_n hyp
          obtain ⟨h11, eh11, hyp⟩ := hb_n hyp
          refine V_iast (pc := 83) C dX3_follow_83 ak_43 g10 eh11 ?_
          refine V_aload_n (pc := 84) C dX3_follow_84 rfl ?_
          refine V_getR (pc := 85) C dX3_follow_85 lf_X3_18 fk_39_7 ?_
          refine V_iload_n (pc := 88) C dX3_follow_88 rfl ?_
          refine V_iload (pc := 89) C dX3_follow_89 rfl ?_
          obtain ⟨g12, hyp⟩ := gd_n hyp
          obtain ⟨h13, eh13, hyp⟩ := hb_n hyp
          refine V_iast (pc := 91) C dX3_follow_91 ak_42 g12 eh13 ?_
          obtain ⟨v14, ev14, hyp⟩ := ib_n hyp
          refine V_iinc (pc := 92) C dX3_follow_92 (v := v14) rfl (by rw [ev14]; rfl) (by decide) rfl ?_
          refine V_weak (lv' := [some (.ref 39), some (.int x1), some (.int x2), some (.int v14), some (.int x4), none]) (lvle_s (lvle_s (lvle_s (lvle_s (lvle_s (lvle_n lvle_0)))))) ?_
          exact (T_X3_follow_b95 C ih) x1 x2 v14 x4 h13 hyp
def F_X3_follow (N : Nat) (a1 : Int32) (a2 : Int32) (h : PH) : Option (Int32 × PH) :=
  hb (hs h 39 12 (0 : Int32)) fun h1 =>
  hb (hs h1 39 13 ((h1.1 39 13) + (1 : Int32))) fun h2 =>
  F_X3_follow_b20 N N a1 a2 (0 : Int32) (0 : Int32) h2
set_option maxRecDepth 20000 in
set_option maxHeartbeats 4000000 in
theorem M_X3_follow (E : EV) {N : Nat} {a1 : Int32} {a2 : Int32} {r : Int32} {h h2 : PH} (hyp : F_X3_follow N a1 a2 h = some (r, h2)) : MI E 103 yX3_follow cX3_follow 6 (some .int) 1 22 [.ref 39, .int a1, .int a2] h r h2 := by
  refine MI.of 3 (by decide) rfl (fun X e1 C => ?_)
  subst e1
  replace C : CX X 103 cX3_follow 6 RX3 (some .int) 1 22 := C
  show V X _ h 0 [some (.ref 39), some (.int a1), some (.int a2), none, none, none] []
  unfold F_X3_follow at hyp
  refine V_aload_n (pc := 0) C dX3_follow_0 rfl ?_
  refine V_iconst (pc := 1) C dX3_follow_1 (v := 0) (by decide) ?_
  obtain ⟨h1, eh1, hyp⟩ := hb_n hyp
  refine V_putI (pc := 2) C dX3_follow_2 lf_X3_47 fk_39_12 rfl rfl eh1 ?_
  refine V_aload_n (pc := 5) C dX3_follow_5 rfl ?_
  refine V_dup (pc := 6) C dX3_follow_6 rfl ?_
  refine V_getI (pc := 7) C dX3_follow_7 lf_X3_60 fk_39_13 ?_
  refine V_iconst (pc := 10) C dX3_follow_10 (v := 1) (by decide) ?_
  refine V_iadd (pc := 11) C dX3_follow_11 ?_
  obtain ⟨h2, eh2, hyp⟩ := hb_n hyp
  refine V_putI (pc := 12) C dX3_follow_12 lf_X3_60 fk_39_13 rfl rfl eh2 ?_
  refine V_iconst (pc := 15) C dX3_follow_15 (v := 0) (by decide) ?_
  refine V_istore_n (pc := 16) C dX3_follow_16 (by decide) rfl ?_
  refine V_iconst (pc := 17) C dX3_follow_17 (v := 0) (by decide) ?_
  refine V_istore (pc := 18) C dX3_follow_18 (by decide) rfl ?_
  refine V_weak (lv' := [some (.ref 39), some (.int a1), some (.int a2), some (.int (0 : Int32)), some (.int (0 : Int32)), none]) (lvle_s (lvle_s (lvle_s (lvle_s (lvle_s (lvle_n lvle_0)))))) ?_
  exact (T_X3_follow_b20 C) N a1 a2 (0 : Int32) (0 : Int32) h2 hyp
theorem dX3_summary_0 : decode cX3_summary 0 = .ok (.sipush 255, 3) := by decide +kernel
theorem dX3_summary_3 : decode cX3_summary 3 = .ok (.istore_n 2, 1) := by decide +kernel
theorem dX3_summary_4 : decode cX3_summary 4 = .ok (.iconst 0, 1) := by decide +kernel
theorem dX3_summary_5 : decode cX3_summary 5 = .ok (.istore_n 3, 1) := by decide +kernel
theorem dX3_summary_6 : decode cX3_summary 6 = .ok (.iconst 0, 1) := by decide +kernel
theorem dX3_summary_7 : decode cX3_summary 7 = .ok (.istore 4, 2) := by decide +kernel
theorem dX3_summary_9 : decode cX3_summary 9 = .ok (.iconst 0, 1) := by decide +kernel
theorem dX3_summary_10 : decode cX3_summary 10 = .ok (.istore 5, 2) := by decide +kernel
theorem dX3_summary_12 : decode cX3_summary 12 = .ok (.iconst 0, 1) := by decide +kernel
theorem dX3_summary_13 : decode cX3_summary 13 = .ok (.istore 6, 2) := by decide +kernel
theorem dX3_summary_15 : decode cX3_summary 15 = .ok (.iload 6, 2) := by decide +kernel
theorem dX3_summary_17 : decode cX3_summary 17 = .ok (.aload_n 0, 1) := by decide +kernel
theorem dX3_summary_18 : decode cX3_summary 18 = .ok (.getfield 43, 3) := by decide +kernel
theorem dX3_summary_21 : decode cX3_summary 21 = .ok (.if_icmp .ge 63, 3) := by decide +kernel
theorem dX3_summary_24 : decode cX3_summary 24 = .ok (.aload_n 0, 1) := by decide +kernel
theorem dX3_summary_25 : decode cX3_summary 25 = .ok (.getfield 35, 3) := by decide +kernel
theorem dX3_summary_28 : decode cX3_summary 28 = .ok (.aload_n 0, 1) := by decide +kernel
theorem dX3_summary_29 : decode cX3_summary 29 = .ok (.getfield 18, 3) := by decide +kernel
theorem dX3_summary_32 : decode cX3_summary 32 = .ok (.iload 6, 2) := by decide +kernel
theorem dX3_summary_34 : decode cX3_summary 34 = .ok (.iaload, 1) := by decide +kernel
theorem dX3_summary_35 : decode cX3_summary 35 = .ok (.invokevirtual 67, 3) := by decide +kernel
theorem dX3_summary_38 : decode cX3_summary 38 = .ok (.istore 7, 2) := by decide +kernel
theorem dX3_summary_40 : decode cX3_summary 40 = .ok (.iload_n 2, 1) := by decide +kernel
theorem dX3_summary_41 : decode cX3_summary 41 = .ok (.iload 7, 2) := by decide +kernel
theorem dX3_summary_43 : decode cX3_summary 43 = .ok (.iand, 1) := by decide +kernel
theorem dX3_summary_44 : decode cX3_summary 44 = .ok (.istore_n 2, 1) := by decide +kernel
theorem dX3_summary_45 : decode cX3_summary 45 = .ok (.iload_n 3, 1) := by decide +kernel
theorem dX3_summary_46 : decode cX3_summary 46 = .ok (.iload 7, 2) := by decide +kernel
theorem dX3_summary_48 : decode cX3_summary 48 = .ok (.sipush 255, 3) := by decide +kernel
theorem dX3_summary_51 : decode cX3_summary 51 = .ok (.iand, 1) := by decide +kernel
theorem dX3_summary_52 : decode cX3_summary 52 = .ok (.ior, 1) := by decide +kernel
theorem dX3_summary_53 : decode cX3_summary 53 = .ok (.istore_n 3, 1) := by decide +kernel
theorem dX3_summary_54 : decode cX3_summary 54 = .ok (.iload 4, 2) := by decide +kernel
theorem dX3_summary_56 : decode cX3_summary 56 = .ok (.iconst 1, 1) := by decide +kernel
theorem dX3_summary_57 : decode cX3_summary 57 = .ok (.iload 7, 2) := by decide +kernel
theorem dX3_summary_59 : decode cX3_summary 59 = .ok (.invokestatic 70, 3) := by decide +kernel
theorem dX3_summary_62 : decode cX3_summary 62 = .ok (.ishl, 1) := by decide +kernel
theorem dX3_summary_63 : decode cX3_summary 63 = .ok (.ior, 1) := by decide +kernel
theorem dX3_summary_64 : decode cX3_summary 64 = .ok (.istore 4, 2) := by decide +kernel
theorem dX3_summary_66 : decode cX3_summary 66 = .ok (.iload 5, 2) := by decide +kernel
theorem dX3_summary_68 : decode cX3_summary 68 = .ok (.iconst 1, 1) := by decide +kernel
theorem dX3_summary_69 : decode cX3_summary 69 = .ok (.iload 7, 2) := by decide +kernel
theorem dX3_summary_71 : decode cX3_summary 71 = .ok (.invokestatic 73, 3) := by decide +kernel
theorem dX3_summary_74 : decode cX3_summary 74 = .ok (.ishl, 1) := by decide +kernel
theorem dX3_summary_75 : decode cX3_summary 75 = .ok (.ior, 1) := by decide +kernel
theorem dX3_summary_76 : decode cX3_summary 76 = .ok (.istore 5, 2) := by decide +kernel
theorem dX3_summary_78 : decode cX3_summary 78 = .ok (.iinc 6 1, 3) := by decide +kernel
theorem dX3_summary_81 : decode cX3_summary 81 = .ok (.goto (-66), 3) := by decide +kernel
theorem dX3_summary_84 : decode cX3_summary 84 = .ok (.iload_n 1, 1) := by decide +kernel
theorem dX3_summary_85 : decode cX3_summary 85 = .ok (.tableswitch 34 1 3 #[27, 29, 31], 27) := by decide +kernel
theorem dX3_summary_112 : decode cX3_summary 112 = .ok (.iload_n 2, 1) := by decide +kernel
theorem dX3_summary_113 : decode cX3_summary 113 = .ok (.ireturn, 1) := by decide +kernel
theorem dX3_summary_114 : decode cX3_summary 114 = .ok (.iload_n 3, 1) := by decide +kernel
theorem dX3_summary_115 : decode cX3_summary 115 = .ok (.ireturn, 1) := by decide +kernel
theorem dX3_summary_116 : decode cX3_summary 116 = .ok (.iload 4, 2) := by decide +kernel
theorem dX3_summary_118 : decode cX3_summary 118 = .ok (.ireturn, 1) := by decide +kernel
theorem dX3_summary_119 : decode cX3_summary 119 = .ok (.iload 5, 2) := by decide +kernel
theorem dX3_summary_121 : decode cX3_summary 121 = .ok (.iconst 1, 1) := by decide +kernel
theorem dX3_summary_122 : decode cX3_summary 122 = .ok (.isub, 1) := by decide +kernel
theorem dX3_summary_123 : decode cX3_summary 123 = .ok (.ireturn, 1) := by decide +kernel
def F_X3_summary_b84 (N : Nat) (x1 : Int32) (x2 : Int32) (x3 : Int32) (x4 : Int32) (x5 : Int32) (h : PH) : Option (Int32 × PH) :=
  if x1 = (1 : Int32) then
    some (x2, h)
  else
  if x1 = (2 : Int32) then
    some (x3, h)
  else
  if x1 = (3 : Int32) then
    some (x4, h)
  else
  some (x5 - (1 : Int32), h)
set_option maxRecDepth 20000 in
set_option maxHeartbeats 4000000 in
theorem T_X3_summary_b84 {X : CT} (C : CX X 103 cX3_summary 8 RX3 (some .int) 1 21) {r0 : Int32} {h0 : PH} {N : Nat} : ∀ (x1 : Int32) (x2 : Int32) (x3 : Int32) (x4 : Int32) (x5 : Int32) (h : PH), F_X3_summary_b84 N x1 x2 x3 x4 x5 h = some (r0, h0) → V X (QI X r0 h0) h 84 [none, some (.int x1), some (.int x2), some (.int x3), some (.int x4), some (.int x5), none, none] [] := by
  intro x1 x2 x3 x4 x5 h hyp
  unfold F_X3_summary_b84 at hyp
  refine V_iload_n (pc := 84) C dX3_summary_84 rfl ?_
  by_cases q1 : x1 = (1 : Int32)
  · replace hyp := (if_pos q1).symm.trans hyp
    refine V_tsIn (pc := 85) C (1 : Int32) dX3_summary_85 (off := 27) (tgt := 112) q1 (by decide) (by decide) rfl (by decide) ?_
    refine V_iload_n (pc := 112) C dX3_summary_112 rfl ?_
    cases hyp
    exact V_iret C dX3_summary_113
  · replace hyp := (if_neg q1).symm.trans hyp
    by_cases q2 : x1 = (2 : Int32)
    · replace hyp := (if_pos q2).symm.trans hyp
      refine V_tsIn (pc := 85) C (2 : Int32) dX3_summary_85 (off := 29) (tgt := 114) q2 (by decide) (by decide) rfl (by decide) ?_
      refine V_iload_n (pc := 114) C dX3_summary_114 rfl ?_
      cases hyp
      exact V_iret C dX3_summary_115
    · replace hyp := (if_neg q2).symm.trans hyp
      by_cases q3 : x1 = (3 : Int32)
      · replace hyp := (if_pos q3).symm.trans hyp
        refine V_tsIn (pc := 85) C (3 : Int32) dX3_summary_85 (off := 31) (tgt := 116) q3 (by decide) (by decide) rfl (by decide) ?_
        refine V_iload (pc := 116) C dX3_summary_116 rfl ?_
        cases hyp
        exact V_iret C dX3_summary_118
      · replace hyp := (if_neg q3).symm.trans hyp
        refine V_tsOut (pc := 85) C dX3_summary_85 (tgt := 119) (fun k k1 k2 => ?_) (by decide) ?_
        · rcases (show k = 1 ∨ k = 2 ∨ k = 3 by omega) with rfl | rfl | rfl
          · exact q1
          · exact q2
          · exact q3
        · refine V_iload (pc := 119) C dX3_summary_119 rfl ?_
          refine V_iconst (pc := 121) C dX3_summary_121 (v := 1) (by decide) ?_
          refine V_isub (pc := 122) C dX3_summary_122 ?_
          cases hyp
          exact V_iret C dX3_summary_123
def F_X3_summary_b15 (N : Nat) : Nat → Int32 → Int32 → Int32 → Int32 → Int32 → Int32 → PH → Option (Int32 × PH)
  | 0, _, _, _, _, _, _, _ => none
  | n + 1, x1, x2, x3, x4, x5, x6, h =>
    if (h.1 39 1) ≤ x6 then
      F_X3_summary_b84 N x1 x2 x3 x4 x5 h
    else
      if inb x6 3072 = true then
      bI (F_X0_stateAt (h.1 42 x6.toNatClampNeg) h) fun r3 h4 =>
      ib (x2 &&& r3) fun v5 =>
      ib (x3 ||| (r3 &&& (255 : Int32))) fun v6 =>
      bI (F_X11_floorOf r3 h4) fun r7 h8 =>
      ib (x4 ||| ((1 : Int32) <<< (r7 &&& 31))) fun v9 =>
      bI (F_X11_doorOf r3 h8) fun r10 h11 =>
      ib (x5 ||| ((1 : Int32) <<< (r10 &&& 31))) fun v12 =>
      ib (x6 + (1 : Int32)) fun v13 =>
      F_X3_summary_b15 N n x1 v5 v6 v9 v12 v13 h11
      else none
set_option maxRecDepth 20000 in
set_option maxHeartbeats 4000000 in
theorem T_X3_summary_b15 {X : CT} (C : CX X 103 cX3_summary 8 RX3 (some .int) 1 21) {r0 : Int32} {h0 : PH} {N : Nat} : ∀ (n : Nat) (x1 : Int32) (x2 : Int32) (x3 : Int32) (x4 : Int32) (x5 : Int32) (x6 : Int32) (h : PH), F_X3_summary_b15 N n x1 x2 x3 x4 x5 x6 h = some (r0, h0) → V X (QI X r0 h0) h 15 [some (.ref 39), some (.int x1), some (.int x2), some (.int x3), some (.int x4), some (.int x5), some (.int x6), none] [] := by
  intro n
  induction n with
  | zero =>
    intro x1 x2 x3 x4 x5 x6 h hyp
    cases hyp
  | succ n ih =>
    intro x1 x2 x3 x4 x5 x6 h hyp
    unfold F_X3_summary_b15 at hyp
    refine V_iload (pc := 15) C dX3_summary_15 rfl ?_
    refine V_aload_n (pc := 17) C dX3_summary_17 rfl ?_
    refine V_getI (pc := 18) C dX3_summary_18 lf_X3_43 fk_39_1 ?_
    refine V_icmp_ge (pc := 21) C dX3_summary_21 (tgt := 84) (by decide) (fun q1 => ?_) (fun q1 => ?_)
    · replace hyp := (if_pos q1).symm.trans hyp
      refine V_weak (lv' := [none, some (.int x1), some (.int x2), some (.int x3), some (.int x4), some (.int x5), none, none]) (lvle_n (lvle_s (lvle_s (lvle_s (lvle_s (lvle_s (lvle_n (lvle_n lvle_0)))))))) ?_
      exact (T_X3_summary_b84 C) x1 x2 x3 x4 x5 h hyp
    · replace hyp := (if_neg q1).symm.trans hyp
      refine V_aload_n (pc := 24) C dX3_summary_24 rfl ?_
      refine V_getR (pc := 25) C dX3_summary_25 lf_X3_35 fk_39_4 ?_
      refine V_aload_n (pc := 28) C dX3_summary_28 rfl ?_
      refine V_getR (pc := 29) C dX3_summary_29 lf_X3_18 fk_39_7 ?_
      refine V_iload (pc := 32) C dX3_summary_32 rfl ?_
      obtain ⟨g2, hyp⟩ := gd_n hyp
      refine V_iald (pc := 34) C dX3_summary_34 ak_42 g2 ?_
      obtain ⟨r3, h4, eh4, hyp⟩ := bI_n hyp
      refine V_callI (pc := 35) C dX3_summary_35 lm_X3_67 mk_X0_stateAt ok_21 rfl (M_X0_stateAt _ eh4) rfl pd_X0_stateAt (by decide) (by decide) (by decide) (As := [.int (h.1 42 x6.toNatClampNeg)]) (rest := []) rfl (Nat.le_of_ble_eq_true rfl) ?_
      refine V_istore (pc := 38) C dX3_summary_38 (by decide) rfl ?_
      refine V_iload_n (pc := 40) C dX3_summary_40 rfl ?_
      refine V_iload (pc := 41) C dX3_summary_41 rfl ?_
      refine V_iand (pc := 43) C dX3_summary_43 ?_
      obtain ⟨v5, ev5, hyp⟩ := ib_n hyp
      refine V_topI ev5 ?_
      refine V_istore_n (pc := 44) C dX3_summary_44 (by decide) rfl ?_
      refine V_iload_n (pc := 45) C dX3_summary_45 rfl ?_
      refine V_iload (pc := 46) C dX3_summary_46 rfl ?_
      refine V_sipush (pc := 48) C dX3_summary_48 (v := 255) (by decide) ?_
      refine V_iand (pc := 51) C dX3_summary_51 ?_
      refine V_ior (pc := 52) C dX3_summary_52 ?_
      obtain ⟨v6, ev6, hyp⟩ := ib_n hyp
      refine V_topI ev6 ?_
      refine V_istore_n (pc := 53) C dX3_summary_53 (by decide) rfl ?_
      refine V_iload (pc := 54) C dX3_summary_54 rfl ?_
      refine V_iconst (pc := 56) C dX3_summary_56 (v := 1) (by decide) ?_
      refine V_iload (pc := 57) C dX3_summary_57 rfl ?_
      obtain ⟨r7, h8, eh8, hyp⟩ := bI_n hyp
      refine V_nstI (pc := 59) C dX3_summary_59 ln_X3_70 ms_X11_floorOf (M_X11_floorOf _ eh8) rfl pd_X11_floorOf (by decide) (by decide) (by decide) (As := [.int r3]) (rest := [.int (1 : Int32), .int x4]) rfl (Nat.le_of_ble_eq_true rfl) ?_
      refine V_ishl (pc := 62) C dX3_summary_62 ?_
      refine V_ior (pc := 63) C dX3_summary_63 ?_
      obtain ⟨v9, ev9, hyp⟩ := ib_n hyp
      refine V_topI ev9 ?_
      refine V_istore (pc := 64) C dX3_summary_64 (by decide) rfl ?_
      refine V_iload (pc := 66) C dX3_summary_66 rfl ?_
      refine V_iconst (pc := 68) C dX3_summary_68 (v := 1) (by decide) ?_
      refine V_iload (pc := 69) C dX3_summary_69 rfl ?_
      obtain ⟨r10, h11, eh11, hyp⟩ := bI_n hyp
      refine V_nstI (pc := 71) C dX3_summary_71 ln_X3_73 ms_X11_doorOf (M_X11_doorOf _ eh11) rfl pd_X11_doorOf (by decide) (by decide) (by decide) (As := [.int r3]) (rest := [.int (1 : Int32), .int x5]) rfl (Nat.le_of_ble_eq_true rfl) ?_
      refine V_ishl (pc := 74) C dX3_summary_74 ?_
      refine V_ior (pc := 75) C dX3_summary_75 ?_
      obtain ⟨v12, ev12, hyp⟩ := ib_n hyp
      refine V_topI ev12 ?_
      refine V_istore (pc := 76) C dX3_summary_76 (by decide) rfl ?_
      obtain ⟨v13, ev13, hyp⟩ := ib_n hyp
      refine V_iinc (pc := 78) C dX3_summary_78 (v := v13) rfl (by rw [ev13]; rfl) (by decide) rfl ?_
      refine V_goto (pc := 81) C dX3_summary_81 (tgt := 15) (by decide) ?_
      refine V_weak (lv' := [some (.ref 39), some (.int x1), some (.int v5), some (.int v6), some (.int v9), some (.int v12), some (.int v13), none]) (lvle_s (lvle_s (lvle_s (lvle_s (lvle_s (lvle_s (lvle_s (lvle_n lvle_0)))))))) ?_
      exact ih x1 v5 v6 v9 v12 v13 h11 hyp
def F_X3_summary (N : Nat) (a1 : Int32) (h : PH) : Option (Int32 × PH) :=
  F_X3_summary_b15 N N a1 (255 : Int32) (0 : Int32) (0 : Int32) (0 : Int32) (0 : Int32) h
set_option maxRecDepth 20000 in
set_option maxHeartbeats 4000000 in
theorem M_X3_summary (E : EV) {N : Nat} {a1 : Int32} {r : Int32} {h h2 : PH} (hyp : F_X3_summary N a1 h = some (r, h2)) : MI E 103 yX3_summary cX3_summary 8 (some .int) 1 21 [.ref 39, .int a1] h r h2 := by
  refine MI.of 6 (by decide) rfl (fun X e1 C => ?_)
  subst e1
  replace C : CX X 103 cX3_summary 8 RX3 (some .int) 1 21 := C
  show V X _ h 0 [some (.ref 39), some (.int a1), none, none, none, none, none, none] []
  unfold F_X3_summary at hyp
  refine V_sipush (pc := 0) C dX3_summary_0 (v := 255) (by decide) ?_
  refine V_istore_n (pc := 3) C dX3_summary_3 (by decide) rfl ?_
  refine V_iconst (pc := 4) C dX3_summary_4 (v := 0) (by decide) ?_
  refine V_istore_n (pc := 5) C dX3_summary_5 (by decide) rfl ?_
  refine V_iconst (pc := 6) C dX3_summary_6 (v := 0) (by decide) ?_
  refine V_istore (pc := 7) C dX3_summary_7 (by decide) rfl ?_
  refine V_iconst (pc := 9) C dX3_summary_9 (v := 0) (by decide) ?_
  refine V_istore (pc := 10) C dX3_summary_10 (by decide) rfl ?_
  refine V_iconst (pc := 12) C dX3_summary_12 (v := 0) (by decide) ?_
  refine V_istore (pc := 13) C dX3_summary_13 (by decide) rfl ?_
  refine V_weak (lv' := [some (.ref 39), some (.int a1), some (.int (255 : Int32)), some (.int (0 : Int32)), some (.int (0 : Int32)), some (.int (0 : Int32)), some (.int (0 : Int32)), none]) (lvle_s (lvle_s (lvle_s (lvle_s (lvle_s (lvle_s (lvle_s (lvle_n lvle_0)))))))) ?_
  exact (T_X3_summary_b15 C) N a1 (255 : Int32) (0 : Int32) (0 : Int32) (0 : Int32) (0 : Int32) h hyp
theorem dX3_floorAt_0 : decode cX3_floorAt 0 = .ok (.aload_n 0, 1) := by decide +kernel
theorem dX3_floorAt_1 : decode cX3_floorAt 1 = .ok (.getfield 35, 3) := by decide +kernel
theorem dX3_floorAt_4 : decode cX3_floorAt 4 = .ok (.iload_n 1, 1) := by decide +kernel
theorem dX3_floorAt_5 : decode cX3_floorAt 5 = .ok (.invokevirtual 67, 3) := by decide +kernel
theorem dX3_floorAt_8 : decode cX3_floorAt 8 = .ok (.invokestatic 70, 3) := by decide +kernel
theorem dX3_floorAt_11 : decode cX3_floorAt 11 = .ok (.ireturn, 1) := by decide +kernel
def F_X3_floorAt (a1 : Int32) (h : PH) : Option (Int32 × PH) :=
  bI (F_X0_stateAt a1 h) fun r1 h2 =>
  bI (F_X11_floorOf r1 h2) fun r3 h4 =>
  some (r3, h4)
set_option maxRecDepth 20000 in
set_option maxHeartbeats 4000000 in
theorem M_X3_floorAt (E : EV) {a1 : Int32} {r : Int32} {h h2 : PH} (hyp : F_X3_floorAt a1 h = some (r, h2)) : MI E 103 yX3_floorAt cX3_floorAt 2 (some .int) 1 21 [.ref 39, .int a1] h r h2 := by
  refine MI.of 0 (by decide) rfl (fun X e1 C => ?_)
  subst e1
  replace C : CX X 103 cX3_floorAt 2 RX3 (some .int) 1 21 := C
  show V X _ h 0 [some (.ref 39), some (.int a1)] []
  unfold F_X3_floorAt at hyp
  refine V_aload_n (pc := 0) C dX3_floorAt_0 rfl ?_
  refine V_getR (pc := 1) C dX3_floorAt_1 lf_X3_35 fk_39_4 ?_
  refine V_iload_n (pc := 4) C dX3_floorAt_4 rfl ?_
  obtain ⟨r1, h2, eh2, hyp⟩ := bI_n hyp
  refine V_callI (pc := 5) C dX3_floorAt_5 lm_X3_67 mk_X0_stateAt ok_21 rfl (M_X0_stateAt _ eh2) rfl pd_X0_stateAt (by decide) (by decide) (by decide) (As := [.int a1]) (rest := []) rfl (Nat.le_of_ble_eq_true rfl) ?_
  obtain ⟨r3, h4, eh4, hyp⟩ := bI_n hyp
  refine V_nstI (pc := 8) C dX3_floorAt_8 ln_X3_70 ms_X11_floorOf (M_X11_floorOf _ eh4) rfl pd_X11_floorOf (by decide) (by decide) (by decide) (As := [.int r1]) (rest := []) rfl (Nat.le_of_ble_eq_true rfl) ?_
  cases hyp
  exact V_iret C dX3_floorAt_11
theorem dX3_oneFloor_0 : decode cX3_oneFloor 0 = .ok (.iload_n 2, 1) := by decide +kernel
theorem dX3_oneFloor_1 : decode cX3_oneFloor 1 = .ok (.iconst 1, 1) := by decide +kernel
theorem dX3_oneFloor_2 : decode cX3_oneFloor 2 = .ok (.iadd, 1) := by decide +kernel
theorem dX3_oneFloor_3 : decode cX3_oneFloor 3 = .ok (.istore 4, 2) := by decide +kernel
theorem dX3_oneFloor_5 : decode cX3_oneFloor 5 = .ok (.iload 4, 2) := by decide +kernel
theorem dX3_oneFloor_7 : decode cX3_oneFloor 7 = .ok (.iload_n 3, 1) := by decide +kernel
theorem dX3_oneFloor_8 : decode cX3_oneFloor 8 = .ok (.if_icmp .ge 29, 3) := by decide +kernel
theorem dX3_oneFloor_11 : decode cX3_oneFloor 11 = .ok (.aload_n 0, 1) := by decide +kernel
theorem dX3_oneFloor_12 : decode cX3_oneFloor 12 = .ok (.aload_n 1, 1) := by decide +kernel
theorem dX3_oneFloor_13 : decode cX3_oneFloor 13 = .ok (.iload 4, 2) := by decide +kernel
theorem dX3_oneFloor_15 : decode cX3_oneFloor 15 = .ok (.iaload, 1) := by decide +kernel
theorem dX3_oneFloor_16 : decode cX3_oneFloor 16 = .ok (.invokevirtual 93, 3) := by decide +kernel
theorem dX3_oneFloor_19 : decode cX3_oneFloor 19 = .ok (.aload_n 0, 1) := by decide +kernel
theorem dX3_oneFloor_20 : decode cX3_oneFloor 20 = .ok (.aload_n 1, 1) := by decide +kernel
theorem dX3_oneFloor_21 : decode cX3_oneFloor 21 = .ok (.iload_n 2, 1) := by decide +kernel
theorem dX3_oneFloor_22 : decode cX3_oneFloor 22 = .ok (.iaload, 1) := by decide +kernel
theorem dX3_oneFloor_23 : decode cX3_oneFloor 23 = .ok (.invokevirtual 93, 3) := by decide +kernel
theorem dX3_oneFloor_26 : decode cX3_oneFloor 26 = .ok (.if_icmp .eq 5, 3) := by decide +kernel
theorem dX3_oneFloor_29 : decode cX3_oneFloor 29 = .ok (.iconst 0, 1) := by decide +kernel
theorem dX3_oneFloor_30 : decode cX3_oneFloor 30 = .ok (.ireturn, 1) := by decide +kernel
theorem dX3_oneFloor_31 : decode cX3_oneFloor 31 = .ok (.iinc 4 1, 3) := by decide +kernel
theorem dX3_oneFloor_34 : decode cX3_oneFloor 34 = .ok (.goto (-29), 3) := by decide +kernel
theorem dX3_oneFloor_37 : decode cX3_oneFloor 37 = .ok (.iconst 1, 1) := by decide +kernel
theorem dX3_oneFloor_38 : decode cX3_oneFloor 38 = .ok (.ireturn, 1) := by decide +kernel
def F_X3_oneFloor_b5 (N : Nat) (row : Nat) : Nat → Int32 → Int32 → Int32 → PH → Option (Int32 × PH)
  | 0, _, _, _, _ => none
  | n + 1, x2, x3, x4, h =>
    if x3 ≤ x4 then
      some ((1 : Int32), h)
    else
      if inb x4 3072 = true then
      bI (F_X3_floorAt (h.1 row x4.toNatClampNeg) h) fun r3 h4 =>
      if inb x2 3072 = true then
      bI (F_X3_floorAt (h4.1 row x2.toNatClampNeg) h4) fun r6 h7 =>
      if r3 = r6 then
        ib (x4 + (1 : Int32)) fun v9 =>
        F_X3_oneFloor_b5 N row n x2 x3 v9 h7
      else
        some ((0 : Int32), h7)
      else none
      else none
set_option maxRecDepth 20000 in
set_option maxHeartbeats 4000000 in
theorem T_X3_oneFloor_b5 {X : CT} (C : CX X 103 cX3_oneFloor 5 RX3 (some .boolean) 2 42) {r0 : Int32} {h0 : PH} {N : Nat} {row : Nat} (hrow : AK 103 row 0 3072 0) : ∀ (n : Nat) (x2 : Int32) (x3 : Int32) (x4 : Int32) (h : PH), F_X3_oneFloor_b5 N row n x2 x3 x4 h = some (r0, h0) → V X (QI X r0 h0) h 5 [some (.ref 39), some (.ref row), some (.int x2), some (.int x3), some (.int x4)] [] := by
  intro n
  induction n with
  | zero =>
    intro x2 x3 x4 h hyp
    cases hyp
  | succ n ih =>
    intro x2 x3 x4 h hyp
    unfold F_X3_oneFloor_b5 at hyp
    refine V_iload (pc := 5) C dX3_oneFloor_5 rfl ?_
    refine V_iload_n (pc := 7) C dX3_oneFloor_7 rfl ?_
    refine V_icmp_ge (pc := 8) C dX3_oneFloor_8 (tgt := 37) (by decide) (fun q1 => ?_) (fun q1 => ?_)
    · replace hyp := (if_pos q1).symm.trans hyp
      refine V_iconst (pc := 37) C dX3_oneFloor_37 (v := 1) (by decide) ?_
      cases hyp
      exact V_zret C dX3_oneFloor_38 rfl
    · replace hyp := (if_neg q1).symm.trans hyp
      refine V_aload_n (pc := 11) C dX3_oneFloor_11 rfl ?_
      refine V_aload_n (pc := 12) C dX3_oneFloor_12 rfl ?_
      refine V_iload (pc := 13) C dX3_oneFloor_13 rfl ?_
      obtain ⟨g2, hyp⟩ := gd_n hyp
      refine V_iald (pc := 15) C dX3_oneFloor_15 hrow g2 ?_
      obtain ⟨r3, h4, eh4, hyp⟩ := bI_n hyp
      refine V_callI (pc := 16) C dX3_oneFloor_16 lm_X3_93 mk_X3_floorAt ok_39 rfl (M_X3_floorAt _ eh4) rfl pd_X3_floorAt (by decide) (by decide) (by decide) (As := [.int (h.1 row x4.toNatClampNeg)]) (rest := []) rfl (Nat.le_of_ble_eq_true rfl) ?_
      refine V_aload_n (pc := 19) C dX3_oneFloor_19 rfl ?_
      refine V_aload_n (pc := 20) C dX3_oneFloor_20 rfl ?_
      refine V_iload_n (pc := 21) C dX3_oneFloor_21 rfl ?_
      obtain ⟨g5, hyp⟩ := gd_n hyp
      refine V_iald (pc := 22) C dX3_oneFloor_22 hrow g5 ?_
      obtain ⟨r6, h7, eh7, hyp⟩ := bI_n hyp
      refine V_callI (pc := 23) C dX3_oneFloor_23 lm_X3_93 mk_X3_floorAt ok_39 rfl (M_X3_floorAt _ eh7) rfl pd_X3_floorAt (by decide) (by decide) (by decide) (As := [.int (h4.1 row x2.toNatClampNeg)]) (rest := [.int r3]) rfl (Nat.le_of_ble_eq_true rfl) ?_
      refine V_icmp_eq (pc := 26) C dX3_oneFloor_26 (tgt := 31) (by decide) (fun q8 => ?_) (fun q8 => ?_)
      · replace hyp := (if_pos q8).symm.trans hyp
        obtain ⟨v9, ev9, hyp⟩ := ib_n hyp
        refine V_iinc (pc := 31) C dX3_oneFloor_31 (v := v9) rfl (by rw [ev9]; rfl) (by decide) rfl ?_
        refine V_goto (pc := 34) C dX3_oneFloor_34 (tgt := 5) (by decide) ?_
        refine V_weak (lv' := [some (.ref 39), some (.ref row), some (.int x2), some (.int x3), some (.int v9)]) (lvle_s (lvle_s (lvle_s (lvle_s (lvle_s lvle_0))))) ?_
        exact ih x2 x3 v9 h7 hyp
      · replace hyp := (if_neg q8).symm.trans hyp
        refine V_iconst (pc := 29) C dX3_oneFloor_29 (v := 0) (by decide) ?_
        cases hyp
        exact V_zret C dX3_oneFloor_30 rfl
def F_X3_oneFloor (N : Nat) (row : Nat) (a2 : Int32) (a3 : Int32) (h : PH) : Option (Int32 × PH) :=
  ib (a2 + (1 : Int32)) fun v1 =>
  F_X3_oneFloor_b5 N row N a2 a3 v1 h
set_option maxRecDepth 20000 in
set_option maxHeartbeats 4000000 in
theorem M_X3_oneFloor (E : EV) {N : Nat} {row : Nat} {a2 : Int32} {a3 : Int32} (hrow : AK 103 row 0 3072 0) {r : Int32} {h h2 : PH} (hyp : F_X3_oneFloor N row a2 a3 h = some (r, h2)) : MI E 103 yX3_oneFloor cX3_oneFloor 5 (some .boolean) 2 42 [.ref 39, .ref row, .int a2, .int a3] h r h2 := by
  refine MI.of 1 (by decide) rfl (fun X e1 C => ?_)
  subst e1
  replace C : CX X 103 cX3_oneFloor 5 RX3 (some .boolean) 2 42 := C
  show V X _ h 0 [some (.ref 39), some (.ref row), some (.int a2), some (.int a3), none] []
  unfold F_X3_oneFloor at hyp
  refine V_iload_n (pc := 0) C dX3_oneFloor_0 rfl ?_
  refine V_iconst (pc := 1) C dX3_oneFloor_1 (v := 1) (by decide) ?_
  refine V_iadd (pc := 2) C dX3_oneFloor_2 ?_
  obtain ⟨v1, ev1, hyp⟩ := ib_n hyp
  refine V_topI ev1 ?_
  refine V_istore (pc := 3) C dX3_oneFloor_3 (by decide) rfl ?_
  refine V_weak (lv' := [some (.ref 39), some (.ref row), some (.int a2), some (.int a3), some (.int v1)]) (lvle_s (lvle_s (lvle_s (lvle_s (lvle_s lvle_0))))) ?_
  exact (T_X3_oneFloor_b5 C hrow) N a2 a3 v1 h hyp
theorem dX3_tellsAtOnce_0 : decode cX3_tellsAtOnce 0 = .ok (.aload_n 0, 1) := by decide +kernel
theorem dX3_tellsAtOnce_1 : decode cX3_tellsAtOnce 1 = .ok (.dup, 1) := by decide +kernel
theorem dX3_tellsAtOnce_2 : decode cX3_tellsAtOnce 2 = .ok (.getfield 60, 3) := by decide +kernel
theorem dX3_tellsAtOnce_5 : decode cX3_tellsAtOnce 5 = .ok (.iconst 1, 1) := by decide +kernel
theorem dX3_tellsAtOnce_6 : decode cX3_tellsAtOnce 6 = .ok (.iadd, 1) := by decide +kernel
theorem dX3_tellsAtOnce_7 : decode cX3_tellsAtOnce 7 = .ok (.putfield 60, 3) := by decide +kernel
theorem dX3_tellsAtOnce_10 : decode cX3_tellsAtOnce 10 = .ok (.iload_n 2, 1) := by decide +kernel
theorem dX3_tellsAtOnce_11 : decode cX3_tellsAtOnce 11 = .ok (.istore 5, 2) := by decide +kernel
theorem dX3_tellsAtOnce_13 : decode cX3_tellsAtOnce 13 = .ok (.iload 5, 2) := by decide +kernel
theorem dX3_tellsAtOnce_15 : decode cX3_tellsAtOnce 15 = .ok (.iload_n 3, 1) := by decide +kernel
theorem dX3_tellsAtOnce_16 : decode cX3_tellsAtOnce 16 = .ok (.if_icmp .ge 94, 3) := by decide +kernel
theorem dX3_tellsAtOnce_19 : decode cX3_tellsAtOnce 19 = .ok (.aload_n 0, 1) := by decide +kernel
theorem dX3_tellsAtOnce_20 : decode cX3_tellsAtOnce 20 = .ok (.getfield 35, 3) := by decide +kernel
theorem dX3_tellsAtOnce_23 : decode cX3_tellsAtOnce 23 = .ok (.aload_n 1, 1) := by decide +kernel
theorem dX3_tellsAtOnce_24 : decode cX3_tellsAtOnce 24 = .ok (.iload 5, 2) := by decide +kernel
theorem dX3_tellsAtOnce_26 : decode cX3_tellsAtOnce 26 = .ok (.iaload, 1) := by decide +kernel
theorem dX3_tellsAtOnce_27 : decode cX3_tellsAtOnce 27 = .ok (.iload 4, 2) := by decide +kernel
theorem dX3_tellsAtOnce_29 : decode cX3_tellsAtOnce 29 = .ok (.invokevirtual 63, 3) := by decide +kernel
theorem dX3_tellsAtOnce_32 : decode cX3_tellsAtOnce 32 = .ok (.istore 6, 2) := by decide +kernel
theorem dX3_tellsAtOnce_34 : decode cX3_tellsAtOnce 34 = .ok (.aload_n 0, 1) := by decide +kernel
theorem dX3_tellsAtOnce_35 : decode cX3_tellsAtOnce 35 = .ok (.getfield 35, 3) := by decide +kernel
theorem dX3_tellsAtOnce_38 : decode cX3_tellsAtOnce 38 = .ok (.iload 6, 2) := by decide +kernel
theorem dX3_tellsAtOnce_40 : decode cX3_tellsAtOnce 40 = .ok (.invokevirtual 56, 3) := by decide +kernel
theorem dX3_tellsAtOnce_43 : decode cX3_tellsAtOnce 43 = .ok (.istore 7, 2) := by decide +kernel
theorem dX3_tellsAtOnce_45 : decode cX3_tellsAtOnce 45 = .ok (.aload_n 0, 1) := by decide +kernel
theorem dX3_tellsAtOnce_46 : decode cX3_tellsAtOnce 46 = .ok (.getfield 9, 3) := by decide +kernel
theorem dX3_tellsAtOnce_49 : decode cX3_tellsAtOnce 49 = .ok (.iload 7, 2) := by decide +kernel
theorem dX3_tellsAtOnce_51 : decode cX3_tellsAtOnce 51 = .ok (.iaload, 1) := by decide +kernel
theorem dX3_tellsAtOnce_52 : decode cX3_tellsAtOnce 52 = .ok (.aload_n 0, 1) := by decide +kernel
theorem dX3_tellsAtOnce_53 : decode cX3_tellsAtOnce 53 = .ok (.getfield 60, 3) := by decide +kernel
theorem dX3_tellsAtOnce_56 : decode cX3_tellsAtOnce 56 = .ok (.if_icmp .eq 30, 3) := by decide +kernel
theorem dX3_tellsAtOnce_59 : decode cX3_tellsAtOnce 59 = .ok (.aload_n 0, 1) := by decide +kernel
theorem dX3_tellsAtOnce_60 : decode cX3_tellsAtOnce 60 = .ok (.getfield 9, 3) := by decide +kernel
theorem dX3_tellsAtOnce_63 : decode cX3_tellsAtOnce 63 = .ok (.iload 7, 2) := by decide +kernel
theorem dX3_tellsAtOnce_65 : decode cX3_tellsAtOnce 65 = .ok (.aload_n 0, 1) := by decide +kernel
theorem dX3_tellsAtOnce_66 : decode cX3_tellsAtOnce 66 = .ok (.getfield 60, 3) := by decide +kernel
theorem dX3_tellsAtOnce_69 : decode cX3_tellsAtOnce 69 = .ok (.iastore, 1) := by decide +kernel
theorem dX3_tellsAtOnce_70 : decode cX3_tellsAtOnce 70 = .ok (.aload_n 0, 1) := by decide +kernel
theorem dX3_tellsAtOnce_71 : decode cX3_tellsAtOnce 71 = .ok (.getfield 15, 3) := by decide +kernel
theorem dX3_tellsAtOnce_74 : decode cX3_tellsAtOnce 74 = .ok (.iload 7, 2) := by decide +kernel
theorem dX3_tellsAtOnce_76 : decode cX3_tellsAtOnce 76 = .ok (.aload_n 0, 1) := by decide +kernel
theorem dX3_tellsAtOnce_77 : decode cX3_tellsAtOnce 77 = .ok (.iload 6, 2) := by decide +kernel
theorem dX3_tellsAtOnce_79 : decode cX3_tellsAtOnce 79 = .ok (.invokevirtual 93, 3) := by decide +kernel
theorem dX3_tellsAtOnce_82 : decode cX3_tellsAtOnce 82 = .ok (.iastore, 1) := by decide +kernel
theorem dX3_tellsAtOnce_83 : decode cX3_tellsAtOnce 83 = .ok (.goto 21, 3) := by decide +kernel
theorem dX3_tellsAtOnce_86 : decode cX3_tellsAtOnce 86 = .ok (.aload_n 0, 1) := by decide +kernel
theorem dX3_tellsAtOnce_87 : decode cX3_tellsAtOnce 87 = .ok (.getfield 15, 3) := by decide +kernel
theorem dX3_tellsAtOnce_90 : decode cX3_tellsAtOnce 90 = .ok (.iload 7, 2) := by decide +kernel
theorem dX3_tellsAtOnce_92 : decode cX3_tellsAtOnce 92 = .ok (.iaload, 1) := by decide +kernel
theorem dX3_tellsAtOnce_93 : decode cX3_tellsAtOnce 93 = .ok (.aload_n 0, 1) := by decide +kernel
theorem dX3_tellsAtOnce_94 : decode cX3_tellsAtOnce 94 = .ok (.iload 6, 2) := by decide +kernel
theorem dX3_tellsAtOnce_96 : decode cX3_tellsAtOnce 96 = .ok (.invokevirtual 93, 3) := by decide +kernel
theorem dX3_tellsAtOnce_99 : decode cX3_tellsAtOnce 99 = .ok (.if_icmp .eq 5, 3) := by decide +kernel
theorem dX3_tellsAtOnce_102 : decode cX3_tellsAtOnce 102 = .ok (.iconst 0, 1) := by decide +kernel
theorem dX3_tellsAtOnce_103 : decode cX3_tellsAtOnce 103 = .ok (.ireturn, 1) := by decide +kernel
theorem dX3_tellsAtOnce_104 : decode cX3_tellsAtOnce 104 = .ok (.iinc 5 1, 3) := by decide +kernel
theorem dX3_tellsAtOnce_107 : decode cX3_tellsAtOnce 107 = .ok (.goto (-94), 3) := by decide +kernel
theorem dX3_tellsAtOnce_110 : decode cX3_tellsAtOnce 110 = .ok (.iconst 1, 1) := by decide +kernel
theorem dX3_tellsAtOnce_111 : decode cX3_tellsAtOnce 111 = .ok (.ireturn, 1) := by decide +kernel
def F_X3_tellsAtOnce_b104 (N : Nat) (row : Nat) (rc13 : Int32 → Int32 → Int32 → PH → Option (Int32 × PH)) (x3 : Int32) (x4 : Int32) (x5 : Int32) (h : PH) : Option (Int32 × PH) :=
  ib (x5 + (1 : Int32)) fun v1 =>
  rc13 x3 x4 v1 h
set_option maxRecDepth 20000 in
set_option maxHeartbeats 4000000 in
theorem T_X3_tellsAtOnce_b104 {X : CT} (C : CX X 103 cX3_tellsAtOnce 8 RX3 (some .boolean) 2 42) {r0 : Int32} {h0 : PH} {N : Nat} {row : Nat} (hrow : AK 103 row 0 3072 0) {rc13 : Int32 → Int32 → Int32 → PH → Option (Int32 × PH)} (hr13 : ∀ (x3 : Int32) (x4 : Int32) (x5 : Int32) (h : PH), rc13 x3 x4 x5 h = some (r0, h0) → V X (QI X r0 h0) h 13 [some (.ref 39), some (.ref row), none, some (.int x3), some (.int x4), some (.int x5), none, none] []) : ∀ (x3 : Int32) (x4 : Int32) (x5 : Int32) (h : PH), F_X3_tellsAtOnce_b104 N row rc13 x3 x4 x5 h = some (r0, h0) → V X (QI X r0 h0) h 104 [some (.ref 39), some (.ref row), none, some (.int x3), some (.int x4), some (.int x5), none, none] [] := by
  intro x3 x4 x5 h hyp
  unfold F_X3_tellsAtOnce_b104 at hyp
  obtain ⟨v1, ev1, hyp⟩ := ib_n hyp
  refine V_iinc (pc := 104) C dX3_tellsAtOnce_104 (v := v1) rfl (by rw [ev1]; rfl) (by decide) rfl ?_
  refine V_goto (pc := 107) C dX3_tellsAtOnce_107 (tgt := 13) (by decide) ?_
  refine V_weak (lv' := [some (.ref 39), some (.ref row), none, some (.int x3), some (.int x4), some (.int v1), none, none]) (lvle_s (lvle_s (lvle_n (lvle_s (lvle_s (lvle_s (lvle_n (lvle_n lvle_0)))))))) ?_
  exact hr13 x3 x4 v1 h hyp
def F_X3_tellsAtOnce_b13 (N : Nat) (row : Nat) : Nat → Int32 → Int32 → Int32 → PH → Option (Int32 × PH)
  | 0, _, _, _, _ => none
  | n + 1, x3, x4, x5, h =>
    if x3 ≤ x5 then
      some ((1 : Int32), h)
    else
      if inb x5 3072 = true then
      bI (F_X0_behind (h.1 row x5.toNatClampNeg) x4 h) fun r3 h4 =>
      bI (F_X0_lampsAt r3 h4) fun r5 h6 =>
      if inb r5 256 = true then
      if (h6.1 40 r5.toNatClampNeg) = (h6.1 39 13) then
        if inb r5 256 = true then
        bI (F_X3_floorAt r3 h6) fun r10 h11 =>
        if (h6.1 41 r5.toNatClampNeg) = r10 then
          F_X3_tellsAtOnce_b104 N row (F_X3_tellsAtOnce_b13 N row n) x3 x4 x5 h11
        else
          some ((0 : Int32), h11)
        else none
      else
        if inb r5 256 = true then
        hb (hs h6 40 r5.toNatClampNeg (h6.1 39 13)) fun h14 =>
        bI (F_X3_floorAt r3 h14) fun r15 h16 =>
        hb (hs h16 41 r5.toNatClampNeg r15) fun h17 =>
        F_X3_tellsAtOnce_b104 N row (F_X3_tellsAtOnce_b13 N row n) x3 x4 x5 h17
        else none
      else none
      else none
set_option maxRecDepth 20000 in
set_option maxHeartbeats 4000000 in
theorem T_X3_tellsAtOnce_b13 {X : CT} (C : CX X 103 cX3_tellsAtOnce 8 RX3 (some .boolean) 2 42) {r0 : Int32} {h0 : PH} {N : Nat} {row : Nat} (hrow : AK 103 row 0 3072 0) : ∀ (n : Nat) (x3 : Int32) (x4 : Int32) (x5 : Int32) (h : PH), F_X3_tellsAtOnce_b13 N row n x3 x4 x5 h = some (r0, h0) → V X (QI X r0 h0) h 13 [some (.ref 39), some (.ref row), none, some (.int x3), some (.int x4), some (.int x5), none, none] [] := by
  intro n
  induction n with
  | zero =>
    intro x3 x4 x5 h hyp
    cases hyp
  | succ n ih =>
    intro x3 x4 x5 h hyp
    unfold F_X3_tellsAtOnce_b13 at hyp
    refine V_iload (pc := 13) C dX3_tellsAtOnce_13 rfl ?_
    refine V_iload_n (pc := 15) C dX3_tellsAtOnce_15 rfl ?_
    refine V_icmp_ge (pc := 16) C dX3_tellsAtOnce_16 (tgt := 110) (by decide) (fun q1 => ?_) (fun q1 => ?_)
    · replace hyp := (if_pos q1).symm.trans hyp
      refine V_iconst (pc := 110) C dX3_tellsAtOnce_110 (v := 1) (by decide) ?_
      cases hyp
      exact V_zret C dX3_tellsAtOnce_111 rfl
    · replace hyp := (if_neg q1).symm.trans hyp
      refine V_aload_n (pc := 19) C dX3_tellsAtOnce_19 rfl ?_
      refine V_getR (pc := 20) C dX3_tellsAtOnce_20 lf_X3_35 fk_39_4 ?_
      refine V_aload_n (pc := 23) C dX3_tellsAtOnce_23 rfl ?_
      refine V_iload (pc := 24) C dX3_tellsAtOnce_24 rfl ?_
      obtain ⟨g2, hyp⟩ := gd_n hyp
      refine V_iald (pc := 26) C dX3_tellsAtOnce_26 hrow g2 ?_
      refine V_iload (pc := 27) C dX3_tellsAtOnce_27 rfl ?_
      obtain ⟨r3, h4, eh4, hyp⟩ := bI_n hyp
      refine V_callI (pc := 29) C dX3_tellsAtOnce_29 lm_X3_63 mk_X0_behind ok_21 rfl (M_X0_behind _ eh4) rfl pd_X0_behind (by decide) (by decide) (by decide) (As := [.int (h.1 row x5.toNatClampNeg), .int x4]) (rest := []) rfl (Nat.le_of_ble_eq_true rfl) ?_
      refine V_istore (pc := 32) C dX3_tellsAtOnce_32 (by decide) rfl ?_
      refine V_aload_n (pc := 34) C dX3_tellsAtOnce_34 rfl ?_
      refine V_getR (pc := 35) C dX3_tellsAtOnce_35 lf_X3_35 fk_39_4 ?_
      refine V_iload (pc := 38) C dX3_tellsAtOnce_38 rfl ?_
      obtain ⟨r5, h6, eh6, hyp⟩ := bI_n hyp
      refine V_callI (pc := 40) C dX3_tellsAtOnce_40 lm_X3_56 mk_X0_lampsAt ok_21 rfl (M_X0_lampsAt _ eh6) rfl pd_X0_lampsAt (by decide) (by decide) (by decide) (As := [.int r3]) (rest := []) rfl (Nat.le_of_ble_eq_true rfl) ?_
      refine V_istore (pc := 43) C dX3_tellsAtOnce_43 (by decide) rfl ?_
      refine V_aload_n (pc := 45) C dX3_tellsAtOnce_45 rfl ?_
      refine V_getR (pc := 46) C dX3_tellsAtOnce_46 lf_X3_9 fk_39_5 ?_
      refine V_iload (pc := 49) C dX3_tellsAtOnce_49 rfl ?_
      obtain ⟨g7, hyp⟩ := gd_n hyp
      refine V_iald (pc := 51) C dX3_tellsAtOnce_51 ak_40 g7 ?_
      refine V_aload_n (pc := 52) C dX3_tellsAtOnce_52 rfl ?_
      refine V_getI (pc := 53) C dX3_tellsAtOnce_53 lf_X3_60 fk_39_13 ?_
      refine V_icmp_eq (pc := 56) C dX3_tellsAtOnce_56 (tgt := 86) (by decide) (fun q8 => ?_) (fun q8 => ?_)
      · replace hyp := (if_pos q8).symm.trans hyp
        refine V_aload_n (pc := 86) C dX3_tellsAtOnce_86 rfl ?_
        refine V_getR (pc := 87) C dX3_tellsAtOnce_87 lf_X3_15 fk_39_6 ?_
        refine V_iload (pc := 90) C dX3_tellsAtOnce_90 rfl ?_
        obtain ⟨g9, hyp⟩ := gd_n hyp
        refine V_iald (pc := 92) C dX3_tellsAtOnce_92 ak_41 g9 ?_
        refine V_aload_n (pc := 93) C dX3_tellsAtOnce_93 rfl ?_
        refine V_iload (pc := 94) C dX3_tellsAtOnce_94 rfl ?_
        obtain ⟨r10, h11, eh11, hyp⟩ := bI_n hyp
        refine V_callI (pc := 96) C dX3_tellsAtOnce_96 lm_X3_93 mk_X3_floorAt ok_39 rfl (M_X3_floorAt _ eh11) rfl pd_X3_floorAt (by decide) (by decide) (by decide) (As := [.int r3]) (rest := [.int (h6.1 41 r5.toNatClampNeg)]) rfl (Nat.le_of_ble_eq_true rfl) ?_
        refine V_icmp_eq (pc := 99) C dX3_tellsAtOnce_99 (tgt := 104) (by decide) (fun q12 => ?_) (fun q12 => ?_)
        · replace hyp := (if_pos q12).symm.trans hyp
          refine V_weak (lv' := [some (.ref 39), some (.ref row), none, some (.int x3), some (.int x4), some (.int x5), none, none]) (lvle_s (lvle_s (lvle_n (lvle_s (lvle_s (lvle_s (lvle_n (lvle_n lvle_0)))))))) ?_
          exact (T_X3_tellsAtOnce_b104 C hrow ih) x3 x4 x5 h11 hyp
        · replace hyp := (if_neg q12).symm.trans hyp
          refine V_iconst (pc := 102) C dX3_tellsAtOnce_102 (v := 0) (by decide) ?_
          cases hyp
          exact V_zret C dX3_tellsAtOnce_103 rfl
      · replace hyp := (if_neg q8).symm.trans hyp
        refine V_aload_n (pc := 59) C dX3_tellsAtOnce_59 rfl ?_
        refine V_getR (pc := 60) C dX3_tellsAtOnce_60 lf_X3_9 fk_39_5 ?_
        refine V_iload (pc := 63) C dX3_tellsAtOnce_63 rfl ?_
        refine V_aload_n (pc := 65) C dX3_tellsAtOnce_65 rfl ?_
        refine V_getI (pc := 66) C dX3_tellsAtOnce_66 lf_X3_60 fk_39_13 ?_
        obtain ⟨g13, hyp⟩ := gd_n hyp
        obtain ⟨h14, eh14, hyp⟩ := hb_n hyp
        refine V_iast (pc := 69) C dX3_tellsAtOnce_69 ak_40 g13 eh14 ?_
        refine V_aload_n (pc := 70) C dX3_tellsAtOnce_70 rfl ?_
        refine V_getR (pc := 71) C dX3_tellsAtOnce_71 lf_X3_15 fk_39_6 ?_
        refine V_iload (pc := 74) C dX3_tellsAtOnce_74 rfl ?_
        refine V_aload_n (pc := 76) C dX3_tellsAtOnce_76 rfl ?_
        refine V_iload (pc := 77) C dX3_tellsAtOnce_77 rfl ?_
        obtain ⟨r15, h16, eh16, hyp⟩ := bI_n hyp
        refine V_callI (pc := 79) C dX3_tellsAtOnce_79 lm_X3_93 mk_X3_floorAt ok_39 rfl (M_X3_floorAt _ eh16) rfl pd_X3_floorAt (by decide) (by decide) (by decide) (As := [.int r3]) (rest := [.int r5, .ref 41]) rfl (Nat.le_of_ble_eq_true rfl) ?_
        obtain ⟨h17, eh17, hyp⟩ := hb_n hyp
        refine V_iast (pc := 82) C dX3_tellsAtOnce_82 ak_41 g13 eh17 ?_
        refine V_goto (pc := 83) C dX3_tellsAtOnce_83 (tgt := 104) (by decide) ?_
        refine V_weak (lv' := [some (.ref 39), some (.ref row), none, some (.int x3), some (.int x4), some (.int x5), none, none]) (lvle_s (lvle_s (lvle_n (lvle_s (lvle_s (lvle_s (lvle_n (lvle_n lvle_0)))))))) ?_
        exact (T_X3_tellsAtOnce_b104 C hrow ih) x3 x4 x5 h17 hyp
def F_X3_tellsAtOnce (N : Nat) (row : Nat) (a2 : Int32) (a3 : Int32) (a4 : Int32) (h : PH) : Option (Int32 × PH) :=
  hb (hs h 39 13 ((h.1 39 13) + (1 : Int32))) fun h1 =>
  F_X3_tellsAtOnce_b13 N row N a3 a4 a2 h1
set_option maxRecDepth 20000 in
set_option maxHeartbeats 4000000 in
theorem M_X3_tellsAtOnce (E : EV) {N : Nat} {row : Nat} {a2 : Int32} {a3 : Int32} {a4 : Int32} (hrow : AK 103 row 0 3072 0) {r : Int32} {h h2 : PH} (hyp : F_X3_tellsAtOnce N row a2 a3 a4 h = some (r, h2)) : MI E 103 yX3_tellsAtOnce cX3_tellsAtOnce 8 (some .boolean) 2 42 [.ref 39, .ref row, .int a2, .int a3, .int a4] h r h2 := by
  refine MI.of 3 (by decide) rfl (fun X e1 C => ?_)
  subst e1
  replace C : CX X 103 cX3_tellsAtOnce 8 RX3 (some .boolean) 2 42 := C
  show V X _ h 0 [some (.ref 39), some (.ref row), some (.int a2), some (.int a3), some (.int a4), none, none, none] []
  unfold F_X3_tellsAtOnce at hyp
  refine V_aload_n (pc := 0) C dX3_tellsAtOnce_0 rfl ?_
  refine V_dup (pc := 1) C dX3_tellsAtOnce_1 rfl ?_
  refine V_getI (pc := 2) C dX3_tellsAtOnce_2 lf_X3_60 fk_39_13 ?_
  refine V_iconst (pc := 5) C dX3_tellsAtOnce_5 (v := 1) (by decide) ?_
  refine V_iadd (pc := 6) C dX3_tellsAtOnce_6 ?_
  obtain ⟨h1, eh1, hyp⟩ := hb_n hyp
  refine V_putI (pc := 7) C dX3_tellsAtOnce_7 lf_X3_60 fk_39_13 rfl rfl eh1 ?_
  refine V_iload_n (pc := 10) C dX3_tellsAtOnce_10 rfl ?_
  refine V_istore (pc := 11) C dX3_tellsAtOnce_11 (by decide) rfl ?_
  refine V_weak (lv' := [some (.ref 39), some (.ref row), none, some (.int a3), some (.int a4), some (.int a2), none, none]) (lvle_s (lvle_s (lvle_n (lvle_s (lvle_s (lvle_s (lvle_n (lvle_n lvle_0)))))))) ?_
  exact (T_X3_tellsAtOnce_b13 C hrow) N a3 a4 a2 h1 hyp
theorem dX3_sizesToBegins_0 : decode cX3_sizesToBegins 0 = .ok (.iconst 0, 1) := by decide +kernel
theorem dX3_sizesToBegins_1 : decode cX3_sizesToBegins 1 = .ok (.istore_n 2, 1) := by decide +kernel
theorem dX3_sizesToBegins_2 : decode cX3_sizesToBegins 2 = .ok (.iconst 0, 1) := by decide +kernel
theorem dX3_sizesToBegins_3 : decode cX3_sizesToBegins 3 = .ok (.istore_n 3, 1) := by decide +kernel
theorem dX3_sizesToBegins_4 : decode cX3_sizesToBegins 4 = .ok (.iload_n 3, 1) := by decide +kernel
theorem dX3_sizesToBegins_5 : decode cX3_sizesToBegins 5 = .ok (.iload_n 1, 1) := by decide +kernel
theorem dX3_sizesToBegins_6 : decode cX3_sizesToBegins 6 = .ok (.if_icmp .ge 23, 3) := by decide +kernel
theorem dX3_sizesToBegins_9 : decode cX3_sizesToBegins 9 = .ok (.aload_n 0, 1) := by decide +kernel
theorem dX3_sizesToBegins_10 : decode cX3_sizesToBegins 10 = .ok (.iload_n 3, 1) := by decide +kernel
theorem dX3_sizesToBegins_11 : decode cX3_sizesToBegins 11 = .ok (.iaload, 1) := by decide +kernel
theorem dX3_sizesToBegins_12 : decode cX3_sizesToBegins 12 = .ok (.istore 4, 2) := by decide +kernel
theorem dX3_sizesToBegins_14 : decode cX3_sizesToBegins 14 = .ok (.aload_n 0, 1) := by decide +kernel
theorem dX3_sizesToBegins_15 : decode cX3_sizesToBegins 15 = .ok (.iload_n 3, 1) := by decide +kernel
theorem dX3_sizesToBegins_16 : decode cX3_sizesToBegins 16 = .ok (.iload_n 2, 1) := by decide +kernel
theorem dX3_sizesToBegins_17 : decode cX3_sizesToBegins 17 = .ok (.iastore, 1) := by decide +kernel
theorem dX3_sizesToBegins_18 : decode cX3_sizesToBegins 18 = .ok (.iload_n 2, 1) := by decide +kernel
theorem dX3_sizesToBegins_19 : decode cX3_sizesToBegins 19 = .ok (.iload 4, 2) := by decide +kernel
theorem dX3_sizesToBegins_21 : decode cX3_sizesToBegins 21 = .ok (.iadd, 1) := by decide +kernel
theorem dX3_sizesToBegins_22 : decode cX3_sizesToBegins 22 = .ok (.istore_n 2, 1) := by decide +kernel
theorem dX3_sizesToBegins_23 : decode cX3_sizesToBegins 23 = .ok (.iinc 3 1, 3) := by decide +kernel
theorem dX3_sizesToBegins_26 : decode cX3_sizesToBegins 26 = .ok (.goto (-22), 3) := by decide +kernel
theorem dX3_sizesToBegins_29 : decode cX3_sizesToBegins 29 = .ok (.return_, 1) := by decide +kernel
def F_X3_sizesToBegins_b4 (N : Nat) (row : Nat) : Nat → Int32 → Int32 → Int32 → PH → Option PH
  | 0, _, _, _, _ => none
  | n + 1, x1, x2, x3, h =>
    if x1 ≤ x3 then
      some h
    else
      if inb x3 256 = true then
      ib (h.1 row x3.toNatClampNeg) fun v3 =>
      hb (hs h row x3.toNatClampNeg x2) fun h4 =>
      ib (x2 + v3) fun v5 =>
      ib (x3 + (1 : Int32)) fun v6 =>
      F_X3_sizesToBegins_b4 N row n x1 v5 v6 h4
      else none
set_option maxRecDepth 20000 in
set_option maxHeartbeats 4000000 in
theorem T_X3_sizesToBegins_b4 {X : CT} (C : CX X 103 cX3_sizesToBegins 5 RX3 none 0 0) {h0 : PH} {N : Nat} {row : Nat} (hrow : AK 103 row 0 256 0) : ∀ (n : Nat) (x1 : Int32) (x2 : Int32) (x3 : Int32) (h : PH), F_X3_sizesToBegins_b4 N row n x1 x2 x3 h = some h0 → V X (QV X h0) h 4 [some (.ref row), some (.int x1), some (.int x2), some (.int x3), none] [] := by
  intro n
  induction n with
  | zero =>
    intro x1 x2 x3 h hyp
    cases hyp
  | succ n ih =>
    intro x1 x2 x3 h hyp
    unfold F_X3_sizesToBegins_b4 at hyp
    refine V_iload_n (pc := 4) C dX3_sizesToBegins_4 rfl ?_
    refine V_iload_n (pc := 5) C dX3_sizesToBegins_5 rfl ?_
    refine V_icmp_ge (pc := 6) C dX3_sizesToBegins_6 (tgt := 29) (by decide) (fun q1 => ?_) (fun q1 => ?_)
    · replace hyp := (if_pos q1).symm.trans hyp
      cases hyp
      exact V_vret C dX3_sizesToBegins_29
    · replace hyp := (if_neg q1).symm.trans hyp
      refine V_aload_n (pc := 9) C dX3_sizesToBegins_9 rfl ?_
      refine V_iload_n (pc := 10) C dX3_sizesToBegins_10 rfl ?_
      obtain ⟨g2, hyp⟩ := gd_n hyp
      refine V_iald (pc := 11) C dX3_sizesToBegins_11 hrow g2 ?_
      obtain ⟨v3, ev3, hyp⟩ := ib_n hyp
      refine V_topI ev3 ?_
      refine V_istore (pc := 12) C dX3_sizesToBegins_12 (by decide) rfl ?_
      refine V_aload_n (pc := 14) C dX3_sizesToBegins_14 rfl ?_
      refine V_iload_n (pc := 15) C dX3_sizesToBegins_15 rfl ?_
      refine V_iload_n (pc := 16) C dX3_sizesToBegins_16 rfl ?_
      obtain ⟨h4, eh4, hyp⟩ := hb_n hyp
      refine V_iast (pc := 17) C dX3_sizesToBegins_17 hrow g2 eh4 ?_
      refine V_iload_n (pc := 18) C dX3_sizesToBegins_18 rfl ?_
      refine V_iload (pc := 19) C dX3_sizesToBegins_19 rfl ?_
      refine V_iadd (pc := 21) C dX3_sizesToBegins_21 ?_
      obtain ⟨v5, ev5, hyp⟩ := ib_n hyp
      refine V_topI ev5 ?_
      refine V_istore_n (pc := 22) C dX3_sizesToBegins_22 (by decide) rfl ?_
      obtain ⟨v6, ev6, hyp⟩ := ib_n hyp
      refine V_iinc (pc := 23) C dX3_sizesToBegins_23 (v := v6) rfl (by rw [ev6]; rfl) (by decide) rfl ?_
      refine V_goto (pc := 26) C dX3_sizesToBegins_26 (tgt := 4) (by decide) ?_
      refine V_weak (lv' := [some (.ref row), some (.int x1), some (.int v5), some (.int v6), none]) (lvle_s (lvle_s (lvle_s (lvle_s (lvle_n lvle_0))))) ?_
      exact ih x1 v5 v6 h4 hyp
def F_X3_sizesToBegins (N : Nat) (row : Nat) (a2 : Int32) (h : PH) : Option PH :=
  F_X3_sizesToBegins_b4 N row N a2 (0 : Int32) (0 : Int32) h
set_option maxRecDepth 20000 in
set_option maxHeartbeats 4000000 in
theorem M_X3_sizesToBegins (E : EV) {N : Nat} {row : Nat} {a2 : Int32} (hrow : AK 103 row 0 256 0) {h h2 : PH} (hyp : F_X3_sizesToBegins N row a2 h = some h2) : MV E 103 yX3_sizesToBegins cX3_sizesToBegins 5 none 0 0 [.ref row, .int a2] h h2 := by
  refine MV.of 3 (by decide) rfl (fun X e1 C => ?_)
  subst e1
  replace C : CX X 103 cX3_sizesToBegins 5 RX3 none 0 0 := C
  show V X _ h 0 [some (.ref row), some (.int a2), none, none, none] []
  unfold F_X3_sizesToBegins at hyp
  refine V_iconst (pc := 0) C dX3_sizesToBegins_0 (v := 0) (by decide) ?_
  refine V_istore_n (pc := 1) C dX3_sizesToBegins_1 (by decide) rfl ?_
  refine V_iconst (pc := 2) C dX3_sizesToBegins_2 (v := 0) (by decide) ?_
  refine V_istore_n (pc := 3) C dX3_sizesToBegins_3 (by decide) rfl ?_
  refine V_weak (lv' := [some (.ref row), some (.int a2), some (.int (0 : Int32)), some (.int (0 : Int32)), none]) (lvle_s (lvle_s (lvle_s (lvle_s (lvle_n lvle_0))))) ?_
  exact (T_X3_sizesToBegins_b4 C hrow) N a2 (0 : Int32) (0 : Int32) h hyp
theorem dX3_split_0 : decode cX3_split 0 = .ok (.aload_n 0, 1) := by decide +kernel
theorem dX3_split_1 : decode cX3_split 1 = .ok (.dup, 1) := by decide +kernel
theorem dX3_split_2 : decode cX3_split 2 = .ok (.getfield 60, 3) := by decide +kernel
theorem dX3_split_5 : decode cX3_split 5 = .ok (.iconst 1, 1) := by decide +kernel
theorem dX3_split_6 : decode cX3_split 6 = .ok (.iadd, 1) := by decide +kernel
theorem dX3_split_7 : decode cX3_split 7 = .ok (.putfield 60, 3) := by decide +kernel
theorem dX3_split_10 : decode cX3_split 10 = .ok (.aload_n 0, 1) := by decide +kernel
theorem dX3_split_11 : decode cX3_split 11 = .ok (.getfield 32, 3) := by decide +kernel
theorem dX3_split_14 : decode cX3_split 14 = .ok (.iload 5, 2) := by decide +kernel
theorem dX3_split_16 : decode cX3_split 16 = .ok (.aaload, 1) := by decide +kernel
theorem dX3_split_17 : decode cX3_split 17 = .ok (.astore 6, 2) := by decide +kernel
theorem dX3_split_19 : decode cX3_split 19 = .ok (.iconst 0, 1) := by decide +kernel
theorem dX3_split_20 : decode cX3_split 20 = .ok (.istore 7, 2) := by decide +kernel
theorem dX3_split_22 : decode cX3_split 22 = .ok (.iconst 0, 1) := by decide +kernel
theorem dX3_split_23 : decode cX3_split 23 = .ok (.istore 8, 2) := by decide +kernel
theorem dX3_split_25 : decode cX3_split 25 = .ok (.iload_n 2, 1) := by decide +kernel
theorem dX3_split_26 : decode cX3_split 26 = .ok (.istore 9, 2) := by decide +kernel
theorem dX3_split_28 : decode cX3_split 28 = .ok (.iload 9, 2) := by decide +kernel
theorem dX3_split_30 : decode cX3_split 30 = .ok (.iload_n 3, 1) := by decide +kernel
theorem dX3_split_31 : decode cX3_split 31 = .ok (.if_icmp .ge 132, 3) := by decide +kernel
theorem dX3_split_34 : decode cX3_split 34 = .ok (.aload_n 0, 1) := by decide +kernel
theorem dX3_split_35 : decode cX3_split 35 = .ok (.getfield 35, 3) := by decide +kernel
theorem dX3_split_38 : decode cX3_split 38 = .ok (.aload_n 1, 1) := by decide +kernel
theorem dX3_split_39 : decode cX3_split 39 = .ok (.iload 9, 2) := by decide +kernel
theorem dX3_split_41 : decode cX3_split 41 = .ok (.iaload, 1) := by decide +kernel
theorem dX3_split_42 : decode cX3_split 42 = .ok (.iload 4, 2) := by decide +kernel
theorem dX3_split_44 : decode cX3_split 44 = .ok (.invokevirtual 63, 3) := by decide +kernel
theorem dX3_split_47 : decode cX3_split 47 = .ok (.istore 10, 2) := by decide +kernel
theorem dX3_split_49 : decode cX3_split 49 = .ok (.aload_n 0, 1) := by decide +kernel
theorem dX3_split_50 : decode cX3_split 50 = .ok (.getfield 21, 3) := by decide +kernel
theorem dX3_split_53 : decode cX3_split 53 = .ok (.iload 10, 2) := by decide +kernel
theorem dX3_split_55 : decode cX3_split 55 = .ok (.iaload, 1) := by decide +kernel
theorem dX3_split_56 : decode cX3_split 56 = .ok (.aload_n 0, 1) := by decide +kernel
theorem dX3_split_57 : decode cX3_split 57 = .ok (.getfield 60, 3) := by decide +kernel
theorem dX3_split_60 : decode cX3_split 60 = .ok (.if_icmp .ne 6, 3) := by decide +kernel
theorem dX3_split_63 : decode cX3_split 63 = .ok (.goto 94, 3) := by decide +kernel
theorem dX3_split_66 : decode cX3_split 66 = .ok (.aload_n 0, 1) := by decide +kernel
theorem dX3_split_67 : decode cX3_split 67 = .ok (.getfield 21, 3) := by decide +kernel
theorem dX3_split_70 : decode cX3_split 70 = .ok (.iload 10, 2) := by decide +kernel
theorem dX3_split_72 : decode cX3_split 72 = .ok (.aload_n 0, 1) := by decide +kernel
theorem dX3_split_73 : decode cX3_split 73 = .ok (.getfield 60, 3) := by decide +kernel
theorem dX3_split_76 : decode cX3_split 76 = .ok (.iastore, 1) := by decide +kernel
theorem dX3_split_77 : decode cX3_split 77 = .ok (.aload_n 0, 1) := by decide +kernel
theorem dX3_split_78 : decode cX3_split 78 = .ok (.getfield 24, 3) := by decide +kernel
theorem dX3_split_81 : decode cX3_split 81 = .ok (.iload 8, 2) := by decide +kernel
theorem dX3_split_83 : decode cX3_split 83 = .ok (.iload 10, 2) := by decide +kernel
theorem dX3_split_85 : decode cX3_split 85 = .ok (.iastore, 1) := by decide +kernel
theorem dX3_split_86 : decode cX3_split 86 = .ok (.iinc 8 1, 3) := by decide +kernel
theorem dX3_split_89 : decode cX3_split 89 = .ok (.aload_n 0, 1) := by decide +kernel
theorem dX3_split_90 : decode cX3_split 90 = .ok (.getfield 35, 3) := by decide +kernel
theorem dX3_split_93 : decode cX3_split 93 = .ok (.iload 10, 2) := by decide +kernel
theorem dX3_split_95 : decode cX3_split 95 = .ok (.invokevirtual 56, 3) := by decide +kernel
theorem dX3_split_98 : decode cX3_split 98 = .ok (.istore 11, 2) := by decide +kernel
theorem dX3_split_100 : decode cX3_split 100 = .ok (.aload_n 0, 1) := by decide +kernel
theorem dX3_split_101 : decode cX3_split 101 = .ok (.getfield 9, 3) := by decide +kernel
theorem dX3_split_104 : decode cX3_split 104 = .ok (.iload 11, 2) := by decide +kernel
theorem dX3_split_106 : decode cX3_split 106 = .ok (.iaload, 1) := by decide +kernel
theorem dX3_split_107 : decode cX3_split 107 = .ok (.aload_n 0, 1) := by decide +kernel
theorem dX3_split_108 : decode cX3_split 108 = .ok (.getfield 60, 3) := by decide +kernel
theorem dX3_split_111 : decode cX3_split 111 = .ok (.if_icmp .eq 32, 3) := by decide +kernel
theorem dX3_split_114 : decode cX3_split 114 = .ok (.aload_n 0, 1) := by decide +kernel
theorem dX3_split_115 : decode cX3_split 115 = .ok (.getfield 9, 3) := by decide +kernel
theorem dX3_split_118 : decode cX3_split 118 = .ok (.iload 11, 2) := by decide +kernel
theorem dX3_split_120 : decode cX3_split 120 = .ok (.aload_n 0, 1) := by decide +kernel
theorem dX3_split_121 : decode cX3_split 121 = .ok (.getfield 60, 3) := by decide +kernel
theorem dX3_split_124 : decode cX3_split 124 = .ok (.iastore, 1) := by decide +kernel
theorem dX3_split_125 : decode cX3_split 125 = .ok (.aload_n 0, 1) := by decide +kernel
theorem dX3_split_126 : decode cX3_split 126 = .ok (.getfield 15, 3) := by decide +kernel
theorem dX3_split_129 : decode cX3_split 129 = .ok (.iload 11, 2) := by decide +kernel
theorem dX3_split_131 : decode cX3_split 131 = .ok (.iload 7, 2) := by decide +kernel
theorem dX3_split_133 : decode cX3_split 133 = .ok (.iastore, 1) := by decide +kernel
theorem dX3_split_134 : decode cX3_split 134 = .ok (.aload 6, 2) := by decide +kernel
theorem dX3_split_136 : decode cX3_split 136 = .ok (.iload 7, 2) := by decide +kernel
theorem dX3_split_138 : decode cX3_split 138 = .ok (.iconst 0, 1) := by decide +kernel
theorem dX3_split_139 : decode cX3_split 139 = .ok (.iastore, 1) := by decide +kernel
theorem dX3_split_140 : decode cX3_split 140 = .ok (.iinc 7 1, 3) := by decide +kernel
theorem dX3_split_143 : decode cX3_split 143 = .ok (.aload 6, 2) := by decide +kernel
theorem dX3_split_145 : decode cX3_split 145 = .ok (.aload_n 0, 1) := by decide +kernel
theorem dX3_split_146 : decode cX3_split 146 = .ok (.getfield 15, 3) := by decide +kernel
theorem dX3_split_149 : decode cX3_split 149 = .ok (.iload 11, 2) := by decide +kernel
theorem dX3_split_151 : decode cX3_split 151 = .ok (.iaload, 1) := by decide +kernel
theorem dX3_split_152 : decode cX3_split 152 = .ok (.dup2, 1) := by decide +kernel
theorem dX3_split_153 : decode cX3_split 153 = .ok (.iaload, 1) := by decide +kernel
theorem dX3_split_154 : decode cX3_split 154 = .ok (.iconst 1, 1) := by decide +kernel
theorem dX3_split_155 : decode cX3_split 155 = .ok (.iadd, 1) := by decide +kernel
theorem dX3_split_156 : decode cX3_split 156 = .ok (.iastore, 1) := by decide +kernel
theorem dX3_split_157 : decode cX3_split 157 = .ok (.iinc 9 1, 3) := by decide +kernel
theorem dX3_split_160 : decode cX3_split 160 = .ok (.goto (-132), 3) := by decide +kernel
theorem dX3_split_163 : decode cX3_split 163 = .ok (.aload 6, 2) := by decide +kernel
theorem dX3_split_165 : decode cX3_split 165 = .ok (.iload 7, 2) := by decide +kernel
theorem dX3_split_167 : decode cX3_split 167 = .ok (.invokestatic 107, 3) := by decide +kernel
theorem dX3_split_170 : decode cX3_split 170 = .ok (.iconst 0, 1) := by decide +kernel
theorem dX3_split_171 : decode cX3_split 171 = .ok (.istore 9, 2) := by decide +kernel
theorem dX3_split_173 : decode cX3_split 173 = .ok (.iload 9, 2) := by decide +kernel
theorem dX3_split_175 : decode cX3_split 175 = .ok (.iload 8, 2) := by decide +kernel
theorem dX3_split_177 : decode cX3_split 177 = .ok (.if_icmp .ge 59, 3) := by decide +kernel
theorem dX3_split_180 : decode cX3_split 180 = .ok (.aload_n 0, 1) := by decide +kernel
theorem dX3_split_181 : decode cX3_split 181 = .ok (.getfield 15, 3) := by decide +kernel
theorem dX3_split_184 : decode cX3_split 184 = .ok (.aload_n 0, 1) := by decide +kernel
theorem dX3_split_185 : decode cX3_split 185 = .ok (.getfield 35, 3) := by decide +kernel
theorem dX3_split_188 : decode cX3_split 188 = .ok (.aload_n 0, 1) := by decide +kernel
theorem dX3_split_189 : decode cX3_split 189 = .ok (.getfield 24, 3) := by decide +kernel
theorem dX3_split_192 : decode cX3_split 192 = .ok (.iload 9, 2) := by decide +kernel
theorem dX3_split_194 : decode cX3_split 194 = .ok (.iaload, 1) := by decide +kernel
theorem dX3_split_195 : decode cX3_split 195 = .ok (.invokevirtual 56, 3) := by decide +kernel
theorem dX3_split_198 : decode cX3_split 198 = .ok (.iaload, 1) := by decide +kernel
theorem dX3_split_199 : decode cX3_split 199 = .ok (.istore 10, 2) := by decide +kernel
theorem dX3_split_201 : decode cX3_split 201 = .ok (.aload_n 0, 1) := by decide +kernel
theorem dX3_split_202 : decode cX3_split 202 = .ok (.getfield 29, 3) := by decide +kernel
theorem dX3_split_205 : decode cX3_split 205 = .ok (.iload 5, 2) := by decide +kernel
theorem dX3_split_207 : decode cX3_split 207 = .ok (.aaload, 1) := by decide +kernel
theorem dX3_split_208 : decode cX3_split 208 = .ok (.aload 6, 2) := by decide +kernel
theorem dX3_split_210 : decode cX3_split 210 = .ok (.iload 10, 2) := by decide +kernel
theorem dX3_split_212 : decode cX3_split 212 = .ok (.iaload, 1) := by decide +kernel
theorem dX3_split_213 : decode cX3_split 213 = .ok (.aload_n 0, 1) := by decide +kernel
theorem dX3_split_214 : decode cX3_split 214 = .ok (.getfield 24, 3) := by decide +kernel
theorem dX3_split_217 : decode cX3_split 217 = .ok (.iload 9, 2) := by decide +kernel
theorem dX3_split_219 : decode cX3_split 219 = .ok (.iaload, 1) := by decide +kernel
theorem dX3_split_220 : decode cX3_split 220 = .ok (.iastore, 1) := by decide +kernel
theorem dX3_split_221 : decode cX3_split 221 = .ok (.aload 6, 2) := by decide +kernel
theorem dX3_split_223 : decode cX3_split 223 = .ok (.iload 10, 2) := by decide +kernel
theorem dX3_split_225 : decode cX3_split 225 = .ok (.dup2, 1) := by decide +kernel
theorem dX3_split_226 : decode cX3_split 226 = .ok (.iaload, 1) := by decide +kernel
theorem dX3_split_227 : decode cX3_split 227 = .ok (.iconst 1, 1) := by decide +kernel
theorem dX3_split_228 : decode cX3_split 228 = .ok (.iadd, 1) := by decide +kernel
theorem dX3_split_229 : decode cX3_split 229 = .ok (.iastore, 1) := by decide +kernel
theorem dX3_split_230 : decode cX3_split 230 = .ok (.iinc 9 1, 3) := by decide +kernel
theorem dX3_split_233 : decode cX3_split 233 = .ok (.goto (-60), 3) := by decide +kernel
theorem dX3_split_236 : decode cX3_split 236 = .ok (.iload 7, 2) := by decide +kernel
theorem dX3_split_238 : decode cX3_split 238 = .ok (.ireturn, 1) := by decide +kernel
def F_X3_split_b157 (N : Nat) (row : Nat) (rc28 : Int32 → Int32 → Int32 → Nat → Int32 → Int32 → Int32 → PH → Option (Int32 × PH)) (x3 : Int32) (x4 : Int32) (x5 : Int32) (g6 : Nat) (x7 : Int32) (x8 : Int32) (x9 : Int32) (h : PH) : Option (Int32 × PH) :=
  ib (x9 + (1 : Int32)) fun v1 =>
  rc28 x3 x4 x5 g6 x7 x8 v1 h
set_option maxRecDepth 20000 in
set_option maxHeartbeats 4000000 in
theorem T_X3_split_b157 {X : CT} (C : CX X 103 cX3_split 12 RX3 (some .int) 1 24) {r0 : Int32} {h0 : PH} {N : Nat} {row : Nat} (hrow : AK 103 row 0 3072 0) {rc28 : Int32 → Int32 → Int32 → Nat → Int32 → Int32 → Int32 → PH → Option (Int32 × PH)} (hr28 : ∀ (x3 : Int32) (x4 : Int32) (x5 : Int32) (g6 : Nat) (x7 : Int32) (x8 : Int32) (x9 : Int32) (h : PH), AK 103 g6 0 256 0 → rc28 x3 x4 x5 g6 x7 x8 x9 h = some (r0, h0) → V X (QI X r0 h0) h 28 [some (.ref 39), some (.ref row), none, some (.int x3), some (.int x4), some (.int x5), some (.ref g6), some (.int x7), some (.int x8), some (.int x9), none, none] []) : ∀ (x3 : Int32) (x4 : Int32) (x5 : Int32) (g6 : Nat) (x7 : Int32) (x8 : Int32) (x9 : Int32) (h : PH), AK 103 g6 0 256 0 → F_X3_split_b157 N row rc28 x3 x4 x5 g6 x7 x8 x9 h = some (r0, h0) → V X (QI X r0 h0) h 157 [some (.ref 39), some (.ref row), none, some (.int x3), some (.int x4), some (.int x5), some (.ref g6), some (.int x7), some (.int x8), some (.int x9), none, none] [] := by
  intro x3 x4 x5 g6 x7 x8 x9 h hg6 hyp
  unfold F_X3_split_b157 at hyp
  obtain ⟨v1, ev1, hyp⟩ := ib_n hyp
  refine V_iinc (pc := 157) C dX3_split_157 (v := v1) rfl (by rw [ev1]; rfl) (by decide) rfl ?_
  refine V_goto (pc := 160) C dX3_split_160 (tgt := 28) (by decide) ?_
  refine V_weak (lv' := [some (.ref 39), some (.ref row), none, some (.int x3), some (.int x4), some (.int x5), some (.ref g6), some (.int x7), some (.int x8), some (.int v1), none, none]) (lvle_s (lvle_s (lvle_n (lvle_s (lvle_s (lvle_s (lvle_s (lvle_s (lvle_s (lvle_s (lvle_n (lvle_n lvle_0)))))))))))) ?_
  exact hr28 x3 x4 x5 g6 x7 x8 v1 h hg6 hyp
def F_X3_split_b143 (N : Nat) (row : Nat) (rc28 : Int32 → Int32 → Int32 → Nat → Int32 → Int32 → Int32 → PH → Option (Int32 × PH)) (x3 : Int32) (x4 : Int32) (x5 : Int32) (g6 : Nat) (x7 : Int32) (x8 : Int32) (x9 : Int32) (x11 : Int32) (h : PH) : Option (Int32 × PH) :=
  if inb x11 256 = true then
  ib (h.1 41 x11.toNatClampNeg) fun v2 =>
  if inb v2 256 = true then
  hb (hs h g6 v2.toNatClampNeg ((h.1 g6 v2.toNatClampNeg) + (1 : Int32))) fun h4 =>
  F_X3_split_b157 N row rc28 x3 x4 x5 g6 x7 x8 x9 h4
  else none
  else none
set_option maxRecDepth 20000 in
set_option maxHeartbeats 4000000 in
theorem T_X3_split_b143 {X : CT} (C : CX X 103 cX3_split 12 RX3 (some .int) 1 24) {r0 : Int32} {h0 : PH} {N : Nat} {row : Nat} (hrow : AK 103 row 0 3072 0) {rc28 : Int32 → Int32 → Int32 → Nat → Int32 → Int32 → Int32 → PH → Option (Int32 × PH)} (hr28 : ∀ (x3 : Int32) (x4 : Int32) (x5 : Int32) (g6 : Nat) (x7 : Int32) (x8 : Int32) (x9 : Int32) (h : PH), AK 103 g6 0 256 0 → rc28 x3 x4 x5 g6 x7 x8 x9 h = some (r0, h0) → V X (QI X r0 h0) h 28 [some (.ref 39), some (.ref row), none, some (.int x3), some (.int x4), some (.int x5), some (.ref g6), some (.int x7), some (.int x8), some (.int x9), none, none] []) : ∀ (x3 : Int32) (x4 : Int32) (x5 : Int32) (g6 : Nat) (x7 : Int32) (x8 : Int32) (x9 : Int32) (x11 : Int32) (h : PH), AK 103 g6 0 256 0 → F_X3_split_b143 N row rc28 x3 x4 x5 g6 x7 x8 x9 x11 h = some (r0, h0) → V X (QI X r0 h0) h 143 [some (.ref 39), some (.ref row), none, some (.int x3), some (.int x4), some (.int x5), some (.ref g6), some (.int x7), some (.int x8), some (.int x9), none, some (.int x11)] [] := by
  intro x3 x4 x5 g6 x7 x8 x9 x11 h hg6 hyp
  unfold F_X3_split_b143 at hyp
  refine V_aload (pc := 143) C dX3_split_143 rfl ?_
  refine V_aload_n (pc := 145) C dX3_split_145 rfl ?_
  refine V_getR (pc := 146) C dX3_split_146 lf_X3_15 fk_39_6 ?_
  refine V_iload (pc := 149) C dX3_split_149 rfl ?_
  obtain ⟨g1, hyp⟩ := gd_n hyp
  refine V_iald (pc := 151) C dX3_split_151 ak_41 g1 ?_
  obtain ⟨v2, ev2, hyp⟩ := ib_n hyp
  refine V_topI ev2 ?_
  refine V_dup2 (pc := 152) C dX3_split_152 rfl rfl ?_
  obtain ⟨g3, hyp⟩ := gd_n hyp
  refine V_iald (pc := 153) C dX3_split_153 hg6 g3 ?_
  refine V_iconst (pc := 154) C dX3_split_154 (v := 1) (by decide) ?_
  refine V_iadd (pc := 155) C dX3_split_155 ?_
  obtain ⟨h4, eh4, hyp⟩ := hb_n hyp
  refine V_iast (pc := 156) C dX3_split_156 hg6 g3 eh4 ?_
  refine V_weak (lv' := [some (.ref 39), some (.ref row), none, some (.int x3), some (.int x4), some (.int x5), some (.ref g6), some (.int x7), some (.int x8), some (.int x9), none, none]) (lvle_s (lvle_s (lvle_n (lvle_s (lvle_s (lvle_s (lvle_s (lvle_s (lvle_s (lvle_s (lvle_n (lvle_n lvle_0)))))))))))) ?_
  exact (T_X3_split_b157 C hrow hr28) x3 x4 x5 g6 x7 x8 x9 h4 hg6 hyp
def F_X3_split_b173 (N : Nat) (row : Nat) : Nat → Int32 → Nat → Int32 → Int32 → Int32 → PH → Option (Int32 × PH)
  | 0, _, _, _, _, _, _ => none
  | n + 1, x5, g6, x7, x8, x9, h =>
    if x8 ≤ x9 then
      some (x7, h)
    else
      if inb x9 3072 = true then
      bI (F_X0_lampsAt (h.1 44 x9.toNatClampNeg) h) fun r3 h4 =>
      if inb r3 256 = true then
      ib (h4.1 41 r3.toNatClampNeg) fun v6 =>
      if inb x5 2 = true then
      if inb v6 256 = true then
      if inb (h4.1 g6 v6.toNatClampNeg) 3072 = true then
      hb (hs h4 (46 + x5.toNatClampNeg) (h4.1 g6 v6.toNatClampNeg).toNatClampNeg (h4.1 44 x9.toNatClampNeg)) fun h10 =>
      hb (hs h10 g6 v6.toNatClampNeg ((h10.1 g6 v6.toNatClampNeg) + (1 : Int32))) fun h11 =>
      ib (x9 + (1 : Int32)) fun v12 =>
      F_X3_split_b173 N row n x5 g6 x7 x8 v12 h11
      else none
      else none
      else none
      else none
      else none
set_option maxRecDepth 20000 in
set_option maxHeartbeats 4000000 in
theorem T_X3_split_b173 {X : CT} (C : CX X 103 cX3_split 12 RX3 (some .int) 1 24) {r0 : Int32} {h0 : PH} {N : Nat} {row : Nat} (hrow : AK 103 row 0 3072 0) : ∀ (n : Nat) (x5 : Int32) (g6 : Nat) (x7 : Int32) (x8 : Int32) (x9 : Int32) (h : PH), AK 103 g6 0 256 0 → F_X3_split_b173 N row n x5 g6 x7 x8 x9 h = some (r0, h0) → V X (QI X r0 h0) h 173 [some (.ref 39), none, none, none, none, some (.int x5), some (.ref g6), some (.int x7), some (.int x8), some (.int x9), none, none] [] := by
  intro n
  induction n with
  | zero =>
    intro x5 g6 x7 x8 x9 h _ hyp
    cases hyp
  | succ n ih =>
    intro x5 g6 x7 x8 x9 h hg6 hyp
    unfold F_X3_split_b173 at hyp
    refine V_iload (pc := 173) C dX3_split_173 rfl ?_
    refine V_iload (pc := 175) C dX3_split_175 rfl ?_
    refine V_icmp_ge (pc := 177) C dX3_split_177 (tgt := 236) (by decide) (fun q1 => ?_) (fun q1 => ?_)
    · replace hyp := (if_pos q1).symm.trans hyp
      refine V_iload (pc := 236) C dX3_split_236 rfl ?_
      cases hyp
      exact V_iret C dX3_split_238
    · replace hyp := (if_neg q1).symm.trans hyp
      refine V_aload_n (pc := 180) C dX3_split_180 rfl ?_
      refine V_getR (pc := 181) C dX3_split_181 lf_X3_15 fk_39_6 ?_
      refine V_aload_n (pc := 184) C dX3_split_184 rfl ?_
      refine V_getR (pc := 185) C dX3_split_185 lf_X3_35 fk_39_4 ?_
      refine V_aload_n (pc := 188) C dX3_split_188 rfl ?_
      refine V_getR (pc := 189) C dX3_split_189 lf_X3_24 fk_39_9 ?_
      refine V_iload (pc := 192) C dX3_split_192 rfl ?_
      obtain ⟨g2, hyp⟩ := gd_n hyp
      refine V_iald (pc := 194) C dX3_split_194 ak_44 g2 ?_
      obtain ⟨r3, h4, eh4, hyp⟩ := bI_n hyp
      refine V_callI (pc := 195) C dX3_split_195 lm_X3_56 mk_X0_lampsAt ok_21 rfl (M_X0_lampsAt _ eh4) rfl pd_X0_lampsAt (by decide) (by decide) (by decide) (As := [.int (h.1 44 x9.toNatClampNeg)]) (rest := [.ref 41]) rfl (Nat.le_of_ble_eq_true rfl) ?_
      obtain ⟨g5, hyp⟩ := gd_n hyp
      refine V_iald (pc := 198) C dX3_split_198 ak_41 g5 ?_
      obtain ⟨v6, ev6, hyp⟩ := ib_n hyp
      refine V_topI ev6 ?_
      refine V_istore (pc := 199) C dX3_split_199 (by decide) rfl ?_
      refine V_aload_n (pc := 201) C dX3_split_201 rfl ?_
      refine V_getR (pc := 202) C dX3_split_202 lf_X3_29 fk_39_10 ?_
      refine V_iload (pc := 205) C dX3_split_205 rfl ?_
      obtain ⟨g7, hyp⟩ := gd_n hyp
      refine V_aald (pc := 207) C dX3_split_207 ak_45 g7 ?_
      refine V_aload (pc := 208) C dX3_split_208 rfl ?_
      refine V_iload (pc := 210) C dX3_split_210 rfl ?_
      obtain ⟨g8, hyp⟩ := gd_n hyp
      refine V_iald (pc := 212) C dX3_split_212 hg6 g8 ?_
      refine V_aload_n (pc := 213) C dX3_split_213 rfl ?_
      refine V_getR (pc := 214) C dX3_split_214 lf_X3_24 fk_39_9 ?_
      refine V_iload (pc := 217) C dX3_split_217 rfl ?_
      refine V_iald (pc := 219) C dX3_split_219 ak_44 g2 ?_
      obtain ⟨g9, hyp⟩ := gd_n hyp
      obtain ⟨h10, eh10, hyp⟩ := hb_n hyp
      refine V_iast (pc := 220) C dX3_split_220 (akr_45 g7) g9 eh10 ?_
      refine V_aload (pc := 221) C dX3_split_221 rfl ?_
      refine V_iload (pc := 223) C dX3_split_223 rfl ?_
      refine V_dup2 (pc := 225) C dX3_split_225 rfl rfl ?_
      refine V_iald (pc := 226) C dX3_split_226 hg6 g8 ?_
      refine V_iconst (pc := 227) C dX3_split_227 (v := 1) (by decide) ?_
      refine V_iadd (pc := 228) C dX3_split_228 ?_
      obtain ⟨h11, eh11, hyp⟩ := hb_n hyp
      refine V_iast (pc := 229) C dX3_split_229 hg6 g8 eh11 ?_
      obtain ⟨v12, ev12, hyp⟩ := ib_n hyp
      refine V_iinc (pc := 230) C dX3_split_230 (v := v12) rfl (by rw [ev12]; rfl) (by decide) rfl ?_
      refine V_goto (pc := 233) C dX3_split_233 (tgt := 173) (by decide) ?_
      refine V_weak (lv' := [some (.ref 39), none, none, none, none, some (.int x5), some (.ref g6), some (.int x7), some (.int x8), some (.int v12), none, none]) (lvle_s (lvle_n (lvle_n (lvle_n (lvle_n (lvle_s (lvle_s (lvle_s (lvle_s (lvle_s (lvle_n (lvle_n lvle_0)))))))))))) ?_
      exact ih x5 g6 x7 x8 v12 h11 hg6 hyp
def F_X3_split_b163 (N : Nat) (row : Nat) (x5 : Int32) (g6 : Nat) (x7 : Int32) (x8 : Int32) (h : PH) : Option (Int32 × PH) :=
  bV (F_X3_sizesToBegins N g6 x7 h) fun h2 =>
  F_X3_split_b173 N row N x5 g6 x7 x8 (0 : Int32) h2
set_option maxRecDepth 20000 in
set_option maxHeartbeats 4000000 in
theorem T_X3_split_b163 {X : CT} (C : CX X 103 cX3_split 12 RX3 (some .int) 1 24) {r0 : Int32} {h0 : PH} {N : Nat} {row : Nat} (hrow : AK 103 row 0 3072 0) : ∀ (x5 : Int32) (g6 : Nat) (x7 : Int32) (x8 : Int32) (h : PH), AK 103 g6 0 256 0 → F_X3_split_b163 N row x5 g6 x7 x8 h = some (r0, h0) → V X (QI X r0 h0) h 163 [some (.ref 39), none, none, none, none, some (.int x5), some (.ref g6), some (.int x7), some (.int x8), none, none, none] [] := by
  intro x5 g6 x7 x8 h hg6 hyp
  unfold F_X3_split_b163 at hyp
  refine V_aload (pc := 163) C dX3_split_163 rfl ?_
  refine V_iload (pc := 165) C dX3_split_165 rfl ?_
  obtain ⟨h2, eh2, hyp⟩ := bV_n hyp
  refine V_statV (pc := 167) C dX3_split_167 lm_X3_107 ms_X3_sizesToBegins (M_X3_sizesToBegins _ hg6 eh2) rfl pd_X3_sizesToBegins (by decide) (by decide) (by decide) (As := [.ref g6, .int x7]) (rest := []) rfl (Nat.le_of_ble_eq_true rfl) ?_
  refine V_iconst (pc := 170) C dX3_split_170 (v := 0) (by decide) ?_
  refine V_istore (pc := 171) C dX3_split_171 (by decide) rfl ?_
  refine V_weak (lv' := [some (.ref 39), none, none, none, none, some (.int x5), some (.ref g6), some (.int x7), some (.int x8), some (.int (0 : Int32)), none, none]) (lvle_s (lvle_n (lvle_n (lvle_n (lvle_n (lvle_s (lvle_s (lvle_s (lvle_s (lvle_s (lvle_n (lvle_n lvle_0)))))))))))) ?_
  exact (T_X3_split_b173 C hrow) N x5 g6 x7 x8 (0 : Int32) h2 hg6 hyp
def F_X3_split_b28 (N : Nat) (row : Nat) : Nat → Int32 → Int32 → Int32 → Nat → Int32 → Int32 → Int32 → PH → Option (Int32 × PH)
  | 0, _, _, _, _, _, _, _, _ => none
  | n + 1, x3, x4, x5, g6, x7, x8, x9, h =>
    if x3 ≤ x9 then
      F_X3_split_b163 N row x5 g6 x7 x8 h
    else
      if inb x9 3072 = true then
      bI (F_X0_behind (h.1 row x9.toNatClampNeg) x4 h) fun r3 h4 =>
      if inb r3 3072 = true then
      if (h4.1 43 r3.toNatClampNeg) = (h4.1 39 13) then
        F_X3_split_b157 N row (F_X3_split_b28 N row n) x3 x4 x5 g6 x7 x8 x9 h4
      else
        if inb r3 3072 = true then
        hb (hs h4 43 r3.toNatClampNeg (h4.1 39 13)) fun h8 =>
        if inb x8 3072 = true then
        hb (hs h8 44 x8.toNatClampNeg r3) fun h10 =>
        ib (x8 + (1 : Int32)) fun v11 =>
        bI (F_X0_lampsAt r3 h10) fun r12 h13 =>
        if inb r12 256 = true then
        if (h13.1 40 r12.toNatClampNeg) = (h13.1 39 13) then
          F_X3_split_b143 N row (F_X3_split_b28 N row n) x3 x4 x5 g6 x7 v11 x9 r12 h13
        else
          if inb r12 256 = true then
          hb (hs h13 40 r12.toNatClampNeg (h13.1 39 13)) fun h17 =>
          hb (hs h17 41 r12.toNatClampNeg x7) fun h18 =>
          if inb x7 256 = true then
          hb (hs h18 g6 x7.toNatClampNeg (0 : Int32)) fun h20 =>
          ib (x7 + (1 : Int32)) fun v21 =>
          F_X3_split_b143 N row (F_X3_split_b28 N row n) x3 x4 x5 g6 v21 v11 x9 r12 h20
          else none
          else none
        else none
        else none
        else none
      else none
      else none
set_option maxRecDepth 20000 in
set_option maxHeartbeats 4000000 in
theorem T_X3_split_b28 {X : CT} (C : CX X 103 cX3_split 12 RX3 (some .int) 1 24) {r0 : Int32} {h0 : PH} {N : Nat} {row : Nat} (hrow : AK 103 row 0 3072 0) : ∀ (n : Nat) (x3 : Int32) (x4 : Int32) (x5 : Int32) (g6 : Nat) (x7 : Int32) (x8 : Int32) (x9 : Int32) (h : PH), AK 103 g6 0 256 0 → F_X3_split_b28 N row n x3 x4 x5 g6 x7 x8 x9 h = some (r0, h0) → V X (QI X r0 h0) h 28 [some (.ref 39), some (.ref row), none, some (.int x3), some (.int x4), some (.int x5), some (.ref g6), some (.int x7), some (.int x8), some (.int x9), none, none] [] := by
  intro n
  induction n with
  | zero =>
    intro x3 x4 x5 g6 x7 x8 x9 h _ hyp
    cases hyp
  | succ n ih =>
    intro x3 x4 x5 g6 x7 x8 x9 h hg6 hyp
    unfold F_X3_split_b28 at hyp
    refine V_iload (pc := 28) C dX3_split_28 rfl ?_
    refine V_iload_n (pc := 30) C dX3_split_30 rfl ?_
    refine V_icmp_ge (pc := 31) C dX3_split_31 (tgt := 163) (by decide) (fun q1 => ?_) (fun q1 => ?_)
    · replace hyp := (if_pos q1).symm.trans hyp
      refine V_weak (lv' := [some (.ref 39), none, none, none, none, some (.int x5), some (.ref g6), some (.int x7), some (.int x8), none, none, none]) (lvle_s (lvle_n (lvle_n (lvle_n (lvle_n (lvle_s (lvle_s (lvle_s (lvle_s (lvle_n (lvle_n (lvle_n lvle_0)))))))))))) ?_
      exact (T_X3_split_b163 C hrow) x5 g6 x7 x8 h hg6 hyp
    · replace hyp := (if_neg q1).symm.trans hyp
      refine V_aload_n (pc := 34) C dX3_split_34 rfl ?_
      refine V_getR (pc := 35) C dX3_split_35 lf_X3_35 fk_39_4 ?_
      refine V_aload_n (pc := 38) C dX3_split_38 rfl ?_
      refine V_iload (pc := 39) C dX3_split_39 rfl ?_
      obtain ⟨g2, hyp⟩ := gd_n hyp
      refine V_iald (pc := 41) C dX3_split_41 hrow g2 ?_
      refine V_iload (pc := 42) C dX3_split_42 rfl ?_
      obtain ⟨r3, h4, eh4, hyp⟩ := bI_n hyp
      refine V_callI (pc := 44) C dX3_split_44 lm_X3_63 mk_X0_behind ok_21 rfl (M_X0_behind _ eh4) rfl pd_X0_behind (by decide) (by decide) (by decide) (As := [.int (h.1 row x9.toNatClampNeg), .int x4]) (rest := []) rfl (Nat.le_of_ble_eq_true rfl) ?_
      refine V_istore (pc := 47) C dX3_split_47 (by decide) rfl ?_
      refine V_aload_n (pc := 49) C dX3_split_49 rfl ?_
      refine V_getR (pc := 50) C dX3_split_50 lf_X3_21 fk_39_8 ?_
      refine V_iload (pc := 53) C dX3_split_53 rfl ?_
      obtain ⟨g5, hyp⟩ := gd_n hyp
      refine V_iald (pc := 55) C dX3_split_55 ak_43 g5 ?_
      refine V_aload_n (pc := 56) C dX3_split_56 rfl ?_
      refine V_getI (pc := 57) C dX3_split_57 lf_X3_60 fk_39_13 ?_
      refine V_icmp_ne (pc := 60) C dX3_split_60 (tgt := 66) (by decide) (fun q6 => ?_) (fun q6 => ?_)
      · replace hyp := (if_neg q6).symm.trans hyp
        refine V_aload_n (pc := 66) C dX3_split_66 rfl ?_
        refine V_getR (pc := 67) C dX3_split_67 lf_X3_21 fk_39_8 ?_
        refine V_iload (pc := 70) C dX3_split_70 rfl ?_
        refine V_aload_n (pc := 72) C dX3_split_72 rfl ?_
        refine V_getI (pc := 73) C dX3_split_73 lf_X3_60 fk_39_13 ?_
        obtain ⟨g7, hyp⟩ := gd_n hyp
        obtain ⟨h8, eh8, hyp⟩ := hb_n hyp
        refine V_iast (pc := 76) C dX3_split_76 ak_43 g7 eh8 ?_
        refine V_aload_n (pc := 77) C dX3_split_77 rfl ?_
        refine V_getR (pc := 78) C dX3_split_78 lf_X3_24 fk_39_9 ?_
        refine V_iload (pc := 81) C dX3_split_81 rfl ?_
        refine V_iload (pc := 83) C dX3_split_83 rfl ?_
        obtain ⟨g9, hyp⟩ := gd_n hyp
        obtain ⟨h10, eh10, hyp⟩ := hb_n hyp
        refine V_iast (pc := 85) C dX3_split_85 ak_44 g9 eh10 ?_
        obtain ⟨v11, ev11, hyp⟩ := ib_n hyp
        refine V_iinc (pc := 86) C dX3_split_86 (v := v11) rfl (by rw [ev11]; rfl) (by decide) rfl ?_
        refine V_aload_n (pc := 89) C dX3_split_89 rfl ?_
        refine V_getR (pc := 90) C dX3_split_90 lf_X3_35 fk_39_4 ?_
        refine V_iload (pc := 93) C dX3_split_93 rfl ?_
        obtain ⟨r12, h13, eh13, hyp⟩ := bI_n hyp
        refine V_callI (pc := 95) C dX3_split_95 lm_X3_56 mk_X0_lampsAt ok_21 rfl (M_X0_lampsAt _ eh13) rfl pd_X0_lampsAt (by decide) (by decide) (by decide) (As := [.int r3]) (rest := []) rfl (Nat.le_of_ble_eq_true rfl) ?_
        refine V_istore (pc := 98) C dX3_split_98 (by decide) rfl ?_
        refine V_aload_n (pc := 100) C dX3_split_100 rfl ?_
        refine V_getR (pc := 101) C dX3_split_101 lf_X3_9 fk_39_5 ?_
        refine V_iload (pc := 104) C dX3_split_104 rfl ?_
        obtain ⟨g14, hyp⟩ := gd_n hyp
        refine V_iald (pc := 106) C dX3_split_106 ak_40 g14 ?_
        refine V_aload_n (pc := 107) C dX3_split_107 rfl ?_
        refine V_getI (pc := 108) C dX3_split_108 lf_X3_60 fk_39_13 ?_
        refine V_icmp_eq (pc := 111) C dX3_split_111 (tgt := 143) (by decide) (fun q15 => ?_) (fun q15 => ?_)
        · replace hyp := (if_pos q15).symm.trans hyp
          refine V_weak (lv' := [some (.ref 39), some (.ref row), none, some (.int x3), some (.int x4), some (.int x5), some (.ref g6), some (.int x7), some (.int v11), some (.int x9), none, some (.int r12)]) (lvle_s (lvle_s (lvle_n (lvle_s (lvle_s (lvle_s (lvle_s (lvle_s (lvle_s (lvle_s (lvle_n (lvle_s lvle_0)))))))))))) ?_
          exact (T_X3_split_b143 C hrow ih) x3 x4 x5 g6 x7 v11 x9 r12 h13 hg6 hyp
        · replace hyp := (if_neg q15).symm.trans hyp
          refine V_aload_n (pc := 114) C dX3_split_114 rfl ?_
          refine V_getR (pc := 115) C dX3_split_115 lf_X3_9 fk_39_5 ?_
          refine V_iload (pc := 118) C dX3_split_118 rfl ?_
          refine V_aload_n (pc := 120) C dX3_split_120 rfl ?_
          refine V_getI (pc := 121) C dX3_split_121 lf_X3_60 fk_39_13 ?_
          obtain ⟨g16, hyp⟩ := gd_n hyp
          obtain ⟨h17, eh17, hyp⟩ := hb_n hyp
          refine V_iast (pc := 124) C dX3_split_124 ak_40 g16 eh17 ?_
          refine V_aload_n (pc := 125) C dX3_split_125 rfl ?_
          refine V_getR (pc := 126) C dX3_split_126 lf_X3_15 fk_39_6 ?_
          refine V_iload (pc := 129) C dX3_split_129 rfl ?_
          refine V_iload (pc := 131) C dX3_split_131 rfl ?_
          obtain ⟨h18, eh18, hyp⟩ := hb_n hyp
          refine V_iast (pc := 133) C dX3_split_133 ak_41 g16 eh18 ?_
          refine V_aload (pc := 134) C dX3_split_134 rfl ?_
          refine V_iload (pc := 136) C dX3_split_136 rfl ?_
          refine V_iconst (pc := 138) C dX3_split_138 (v := 0) (by decide) ?_
          obtain ⟨g19, hyp⟩ := gd_n hyp
          obtain ⟨h20, eh20, hyp⟩ := hb_n hyp
          refine V_iast (pc := 139) C dX3_split_139 hg6 g19 eh20 ?_
          obtain ⟨v21, ev21, hyp⟩ := ib_n hyp
          refine V_iinc (pc := 140) C dX3_split_140 (v := v21) rfl (by rw [ev21]; rfl) (by decide) rfl ?_
          refine V_weak (lv' := [some (.ref 39), some (.ref row), none, some (.int x3), some (.int x4), some (.int x5), some (.ref g6), some (.int v21), some (.int v11), some (.int x9), none, some (.int r12)]) (lvle_s (lvle_s (lvle_n (lvle_s (lvle_s (lvle_s (lvle_s (lvle_s (lvle_s (lvle_s (lvle_n (lvle_s lvle_0)))))))))))) ?_
          exact (T_X3_split_b143 C hrow ih) x3 x4 x5 g6 v21 v11 x9 r12 h20 hg6 hyp
      · replace hyp := (if_pos q6).symm.trans hyp
        refine V_goto (pc := 63) C dX3_split_63 (tgt := 157) (by decide) ?_
        refine V_weak (lv' := [some (.ref 39), some (.ref row), none, some (.int x3), some (.int x4), some (.int x5), some (.ref g6), some (.int x7), some (.int x8), some (.int x9), none, none]) (lvle_s (lvle_s (lvle_n (lvle_s (lvle_s (lvle_s (lvle_s (lvle_s (lvle_s (lvle_s (lvle_n (lvle_n lvle_0)))))))))))) ?_
        exact (T_X3_split_b157 C hrow ih) x3 x4 x5 g6 x7 x8 x9 h4 hg6 hyp
def F_X3_split (N : Nat) (row : Nat) (a2 : Int32) (a3 : Int32) (a4 : Int32) (a5 : Int32) (h : PH) : Option (Int32 × PH) :=
  hb (hs h 39 13 ((h.1 39 13) + (1 : Int32))) fun h1 =>
  if inb a5 2 = true then
  F_X3_split_b28 N row N a3 a4 a5 (49 + a5.toNatClampNeg) (0 : Int32) (0 : Int32) a2 h1
  else none
set_option maxRecDepth 20000 in
set_option maxHeartbeats 4000000 in
theorem M_X3_split (E : EV) {N : Nat} {row : Nat} {a2 : Int32} {a3 : Int32} {a4 : Int32} {a5 : Int32} (hrow : AK 103 row 0 3072 0) {r : Int32} {h h2 : PH} (hyp : F_X3_split N row a2 a3 a4 a5 h = some (r, h2)) : MI E 103 yX3_split cX3_split 12 (some .int) 1 24 [.ref 39, .ref row, .int a2, .int a3, .int a4, .int a5] h r h2 := by
  refine MI.of 6 (by decide) rfl (fun X e1 C => ?_)
  subst e1
  replace C : CX X 103 cX3_split 12 RX3 (some .int) 1 24 := C
  show V X _ h 0 [some (.ref 39), some (.ref row), some (.int a2), some (.int a3), some (.int a4), some (.int a5), none, none, none, none, none, none] []
  unfold F_X3_split at hyp
  refine V_aload_n (pc := 0) C dX3_split_0 rfl ?_
  refine V_dup (pc := 1) C dX3_split_1 rfl ?_
  refine V_getI (pc := 2) C dX3_split_2 lf_X3_60 fk_39_13 ?_
  refine V_iconst (pc := 5) C dX3_split_5 (v := 1) (by decide) ?_
  refine V_iadd (pc := 6) C dX3_split_6 ?_
  obtain ⟨h1, eh1, hyp⟩ := hb_n hyp
  refine V_putI (pc := 7) C dX3_split_7 lf_X3_60 fk_39_13 rfl rfl eh1 ?_
  refine V_aload_n (pc := 10) C dX3_split_10 rfl ?_
  refine V_getR (pc := 11) C dX3_split_11 lf_X3_32 fk_39_11 ?_
  refine V_iload (pc := 14) C dX3_split_14 rfl ?_
  obtain ⟨g2, hyp⟩ := gd_n hyp
  refine V_aald (pc := 16) C dX3_split_16 ak_48 g2 ?_
  refine V_astore (pc := 17) C dX3_split_17 (by decide) rfl ?_
  refine V_iconst (pc := 19) C dX3_split_19 (v := 0) (by decide) ?_
  refine V_istore (pc := 20) C dX3_split_20 (by decide) rfl ?_
  refine V_iconst (pc := 22) C dX3_split_22 (v := 0) (by decide) ?_
  refine V_istore (pc := 23) C dX3_split_23 (by decide) rfl ?_
  refine V_iload_n (pc := 25) C dX3_split_25 rfl ?_
  refine V_istore (pc := 26) C dX3_split_26 (by decide) rfl ?_
  refine V_weak (lv' := [some (.ref 39), some (.ref row), none, some (.int a3), some (.int a4), some (.int a5), some (.ref (49 + a5.toNatClampNeg)), some (.int (0 : Int32)), some (.int (0 : Int32)), some (.int a2), none, none]) (lvle_s (lvle_s (lvle_n (lvle_s (lvle_s (lvle_s (lvle_s (lvle_s (lvle_s (lvle_s (lvle_n (lvle_n lvle_0)))))))))))) ?_
  exact (T_X3_split_b28 C hrow) N a3 a4 a5 (49 + a5.toNatClampNeg) (0 : Int32) (0 : Int32) a2 h1 (akr_48 g2) hyp
