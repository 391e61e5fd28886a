theorem dX3_plan_0 : decode cX3_plan 0 = .ok (.aload_n 0, 1) := by decide +kernel
theorem dX3_plan_1 : decode cX3_plan 1 = .ok (.getfield 47, 3) := by decide +kernel
theorem dX3_plan_4 : decode cX3_plan 4 = .ok (.ifCond .eq 4, 3) := by decide +kernel
theorem dX3_plan_7 : decode cX3_plan 7 = .ok (.return_, 1) := by decide +kernel
theorem dX3_plan_8 : decode cX3_plan 8 = .ok (.aload_n 0, 1) := by decide +kernel
theorem dX3_plan_9 : decode cX3_plan 9 = .ok (.iconst 1, 1) := by decide +kernel
theorem dX3_plan_10 : decode cX3_plan 10 = .ok (.putfield 47, 3) := by decide +kernel
theorem dX3_plan_13 : decode cX3_plan 13 = .ok (.aload_n 0, 1) := by decide +kernel
theorem dX3_plan_14 : decode cX3_plan 14 = .ok (.aload_n 0, 1) := by decide +kernel
theorem dX3_plan_15 : decode cX3_plan 15 = .ok (.aload_n 0, 1) := by decide +kernel
theorem dX3_plan_16 : decode cX3_plan 16 = .ok (.getfield 18, 3) := by decide +kernel
theorem dX3_plan_19 : decode cX3_plan 19 = .ok (.iconst 0, 1) := by decide +kernel
theorem dX3_plan_20 : decode cX3_plan 20 = .ok (.aload_n 0, 1) := by decide +kernel
theorem dX3_plan_21 : decode cX3_plan 21 = .ok (.getfield 43, 3) := by decide +kernel
theorem dX3_plan_24 : decode cX3_plan 24 = .ok (.invokevirtual 76, 3) := by decide +kernel
theorem dX3_plan_27 : decode cX3_plan 27 = .ok (.ifCond .eq 7, 3) := by decide +kernel
theorem dX3_plan_30 : decode cX3_plan 30 = .ok (.iconst 0, 1) := by decide +kernel
theorem dX3_plan_31 : decode cX3_plan 31 = .ok (.goto 4, 3) := by decide +kernel
theorem dX3_plan_34 : decode cX3_plan 34 = .ok (.iconst (-1), 1) := by decide +kernel
theorem dX3_plan_35 : decode cX3_plan 35 = .ok (.putfield 80, 3) := by decide +kernel
theorem dX3_plan_38 : decode cX3_plan 38 = .ok (.aload_n 0, 1) := by decide +kernel
theorem dX3_plan_39 : decode cX3_plan 39 = .ok (.iconst (-1), 1) := by decide +kernel
theorem dX3_plan_40 : decode cX3_plan 40 = .ok (.putfield 83, 3) := by decide +kernel
theorem dX3_plan_43 : decode cX3_plan 43 = .ok (.iconst 1, 1) := by decide +kernel
theorem dX3_plan_44 : decode cX3_plan 44 = .ok (.istore_n 1, 1) := by decide +kernel
theorem dX3_plan_45 : decode cX3_plan 45 = .ok (.iload_n 1, 1) := by decide +kernel
theorem dX3_plan_46 : decode cX3_plan 46 = .ok (.iconst 3, 1) := by decide +kernel
theorem dX3_plan_47 : decode cX3_plan 47 = .ok (.if_icmp .gt 72, 3) := by decide +kernel
theorem dX3_plan_50 : decode cX3_plan 50 = .ok (.aload_n 0, 1) := by decide +kernel
theorem dX3_plan_51 : decode cX3_plan 51 = .ok (.getfield 80, 3) := by decide +kernel
theorem dX3_plan_54 : decode cX3_plan 54 = .ok (.iconst (-1), 1) := by decide +kernel
theorem dX3_plan_55 : decode cX3_plan 55 = .ok (.if_icmp .ne 64, 3) := by decide +kernel
theorem dX3_plan_58 : decode cX3_plan 58 = .ok (.iconst 0, 1) := by decide +kernel
theorem dX3_plan_59 : decode cX3_plan 59 = .ok (.istore_n 2, 1) := by decide +kernel
theorem dX3_plan_60 : decode cX3_plan 60 = .ok (.iload_n 2, 1) := by decide +kernel
theorem dX3_plan_61 : decode cX3_plan 61 = .ok (.aload_n 0, 1) := by decide +kernel
theorem dX3_plan_62 : decode cX3_plan 62 = .ok (.getfield 35, 3) := by decide +kernel
theorem dX3_plan_65 : decode cX3_plan 65 = .ok (.invokevirtual 86, 3) := by decide +kernel
theorem dX3_plan_68 : decode cX3_plan 68 = .ok (.if_icmp .ge 45, 3) := by decide +kernel
theorem dX3_plan_71 : decode cX3_plan 71 = .ok (.aload_n 0, 1) := by decide +kernel
theorem dX3_plan_72 : decode cX3_plan 72 = .ok (.getfield 80, 3) := by decide +kernel
theorem dX3_plan_75 : decode cX3_plan 75 = .ok (.iconst (-1), 1) := by decide +kernel
theorem dX3_plan_76 : decode cX3_plan 76 = .ok (.if_icmp .ne 37, 3) := by decide +kernel
theorem dX3_plan_79 : decode cX3_plan 79 = .ok (.aload_n 0, 1) := by decide +kernel
theorem dX3_plan_80 : decode cX3_plan 80 = .ok (.aload_n 0, 1) := by decide +kernel
theorem dX3_plan_81 : decode cX3_plan 81 = .ok (.getfield 18, 3) := by decide +kernel
theorem dX3_plan_84 : decode cX3_plan 84 = .ok (.iconst 0, 1) := by decide +kernel
theorem dX3_plan_85 : decode cX3_plan 85 = .ok (.aload_n 0, 1) := by decide +kernel
theorem dX3_plan_86 : decode cX3_plan 86 = .ok (.getfield 43, 3) := by decide +kernel
theorem dX3_plan_89 : decode cX3_plan 89 = .ok (.iload_n 1, 1) := by decide +kernel
theorem dX3_plan_90 : decode cX3_plan 90 = .ok (.iload_n 2, 1) := by decide +kernel
theorem dX3_plan_91 : decode cX3_plan 91 = .ok (.invokevirtual 89, 3) := by decide +kernel
theorem dX3_plan_94 : decode cX3_plan 94 = .ok (.ifCond .eq 13, 3) := by decide +kernel
theorem dX3_plan_97 : decode cX3_plan 97 = .ok (.aload_n 0, 1) := by decide +kernel
theorem dX3_plan_98 : decode cX3_plan 98 = .ok (.iload_n 1, 1) := by decide +kernel
theorem dX3_plan_99 : decode cX3_plan 99 = .ok (.putfield 80, 3) := by decide +kernel
theorem dX3_plan_102 : decode cX3_plan 102 = .ok (.aload_n 0, 1) := by decide +kernel
theorem dX3_plan_103 : decode cX3_plan 103 = .ok (.iload_n 2, 1) := by decide +kernel
theorem dX3_plan_104 : decode cX3_plan 104 = .ok (.putfield 83, 3) := by decide +kernel
theorem dX3_plan_107 : decode cX3_plan 107 = .ok (.iinc 2 1, 3) := by decide +kernel
theorem dX3_plan_110 : decode cX3_plan 110 = .ok (.goto (-50), 3) := by decide +kernel
theorem dX3_plan_113 : decode cX3_plan 113 = .ok (.iinc 1 1, 3) := by decide +kernel
theorem dX3_plan_116 : decode cX3_plan 116 = .ok (.goto (-71), 3) := by decide +kernel
theorem dX3_plan_119 : decode cX3_plan 119 = .ok (.return_, 1) := by decide +kernel
def F_X3_plan_b107 (N : Nat) (rc45 : Int32 → PH → Option PH) (rc60 : Int32 → Int32 → PH → Option PH) (x1 : Int32) (x2 : Int32) (h : PH) : Option PH :=
  ib (x2 + (1 : Int32)) fun v1 =>
  rc60 x1 v1 h
set_option maxRecDepth 20000 in
set_option maxHeartbeats 4000000 in
theorem T_X3_plan_b107 {X : CT} (C : CX X 103 cX3_plan 3 RX3 none 33 902) {h0 : PH} {N : Nat} {rc45 : Int32 → PH → Option PH} {rc60 : Int32 → Int32 → PH → Option PH} (hr45 : ∀ (x1 : Int32) (h : PH), rc45 x1 h = some h0 → V X (QV X h0) h 45 [some (.ref 39), some (.int x1), none] []) (hr60 : ∀ (x1 : Int32) (x2 : Int32) (h : PH), rc60 x1 x2 h = some h0 → V X (QV X h0) h 60 [some (.ref 39), some (.int x1), some (.int x2)] []) : ∀ (x1 : Int32) (x2 : Int32) (h : PH), F_X3_plan_b107 N rc45 rc60 x1 x2 h = some h0 → V X (QV X h0) h 107 [some (.ref 39), some (.int x1), some (.int x2)] [] := by
  intro x1 x2 h hyp
  unfold F_X3_plan_b107 at hyp
  obtain ⟨v1, ev1, hyp⟩ := ib_n hyp
  refine V_iinc (pc := 107) C dX3_plan_107 (v := v1) rfl (by rw [ev1]; rfl) (by decide) rfl ?_
  refine V_goto (pc := 110) C dX3_plan_110 (tgt := 60) (by decide) ?_
  refine V_weak (lv' := [some (.ref 39), some (.int x1), some (.int v1)]) (lvle_s (lvle_s (lvle_s lvle_0))) ?_
  exact hr60 x1 v1 h hyp
def F_X3_plan_b113 (N : Nat) (rc45 : Int32 → PH → Option PH) (x1 : Int32) (h : PH) : Option PH :=
  ib (x1 + (1 : Int32)) fun v1 =>
  rc45 v1 h
set_option maxRecDepth 20000 in
set_option maxHeartbeats 4000000 in
theorem T_X3_plan_b113 {X : CT} (C : CX X 103 cX3_plan 3 RX3 none 33 902) {h0 : PH} {N : Nat} {rc45 : Int32 → PH → Option PH} (hr45 : ∀ (x1 : Int32) (h : PH), rc45 x1 h = some h0 → V X (QV X h0) h 45 [some (.ref 39), some (.int x1), none] []) : ∀ (x1 : Int32) (h : PH), F_X3_plan_b113 N rc45 x1 h = some h0 → V X (QV X h0) h 113 [some (.ref 39), some (.int x1), none] [] := by
  intro x1 h hyp
  unfold F_X3_plan_b113 at hyp
  obtain ⟨v1, ev1, hyp⟩ := ib_n hyp
  refine V_iinc (pc := 113) C dX3_plan_113 (v := v1) rfl (by rw [ev1]; rfl) (by decide) rfl ?_
  refine V_goto (pc := 116) C dX3_plan_116 (tgt := 45) (by decide) ?_
  refine V_weak (lv' := [some (.ref 39), some (.int v1), none]) (lvle_s (lvle_s (lvle_n lvle_0))) ?_
  exact hr45 v1 h hyp
def F_X3_plan_b60 (N : Nat) (rc45 : Int32 → PH → Option PH) : Nat → Int32 → Int32 → PH → Option PH
  | 0, _, _, _ => none
  | n + 1, x1, x2, h =>
    bI (F_X0_choices  h) fun r1 h2 =>
    if r1 ≤ x2 then
      F_X3_plan_b113 N rc45 x1 h2
    else
      if (h2.1 39 2) = (-1 : Int32) then
        bI (G_X3_tells N 42 (0 : Int32) (h2.1 39 1) x1 x2 h2) fun r5 h6 =>
        if r5 = 0 then
          F_X3_plan_b107 N rc45 (F_X3_plan_b60 N rc45 n) x1 x2 h6
        else
          hb (hs h6 39 2 x1) fun h8 =>
          hb (hs h8 39 3 x2) fun h9 =>
          F_X3_plan_b107 N rc45 (F_X3_plan_b60 N rc45 n) x1 x2 h9
      else
        F_X3_plan_b113 N rc45 x1 h2
set_option maxRecDepth 20000 in
set_option maxHeartbeats 4000000 in
theorem T_X3_plan_b60 {X : CT} (C : CX X 103 cX3_plan 3 RX3 none 33 902) {h0 : PH} {N : Nat} {rc45 : Int32 → PH → Option PH} (hr45 : ∀ (x1 : Int32) (h : PH), rc45 x1 h = some h0 → V X (QV X h0) h 45 [some (.ref 39), some (.int x1), none] []) : ∀ (n : Nat) (x1 : Int32) (x2 : Int32) (h : PH), F_X3_plan_b60 N rc45 n x1 x2 h = some h0 → V X (QV X h0) h 60 [some (.ref 39), some (.int x1), some (.int x2)] [] := by
  intro n
  induction n with
  | zero =>
    intro x1 x2 h hyp
    cases hyp
  | succ n ih =>
    intro x1 x2 h hyp
    unfold F_X3_plan_b60 at hyp
    refine V_iload_n (pc := 60) C dX3_plan_60 rfl ?_
    refine V_aload_n (pc := 61) C dX3_plan_61 rfl ?_
    refine V_getR (pc := 62) C dX3_plan_62 lf_X3_35 fk_39_4 ?_
    obtain ⟨r1, h2, eh2, hyp⟩ := bI_n hyp
    refine V_callI (pc := 65) C dX3_plan_65 lm_X3_86 mk_X0_choices ok_21 rfl (M_X0_choices _ eh2) rfl pd_X0_choices (by decide) (by decide) (by decide) (As := []) (rest := [.int x2]) rfl (Nat.le_of_ble_eq_true rfl) ?_
    refine V_icmp_ge (pc := 68) C dX3_plan_68 (tgt := 113) (by decide) (fun q3 => ?_) (fun q3 => ?_)
    · replace hyp := (if_pos q3).symm.trans hyp
      refine V_weak (lv' := [some (.ref 39), some (.int x1), none]) (lvle_s (lvle_s (lvle_n lvle_0))) ?_
      exact (T_X3_plan_b113 C hr45) x1 h2 hyp
    · replace hyp := (if_neg q3).symm.trans hyp
      refine V_aload_n (pc := 71) C dX3_plan_71 rfl ?_
      refine V_getI (pc := 72) C dX3_plan_72 lf_X3_80 fk_39_2 ?_
      refine V_iconst (pc := 75) C dX3_plan_75 (v := -1) (by decide) ?_
      refine V_icmp_ne (pc := 76) C dX3_plan_76 (tgt := 113) (by decide) (fun q4 => ?_) (fun q4 => ?_)
      · replace hyp := (if_neg q4).symm.trans hyp
        refine V_weak (lv' := [some (.ref 39), some (.int x1), none]) (lvle_s (lvle_s (lvle_n lvle_0))) ?_
        exact (T_X3_plan_b113 C hr45) x1 h2 hyp
      · replace hyp := (if_pos q4).symm.trans hyp
        refine V_aload_n (pc := 79) C dX3_plan_79 rfl ?_
        refine V_aload_n (pc := 80) C dX3_plan_80 rfl ?_
        refine V_getR (pc := 81) C dX3_plan_81 lf_X3_18 fk_39_7 ?_
        refine V_iconst (pc := 84) C dX3_plan_84 (v := 0) (by decide) ?_
        refine V_aload_n (pc := 85) C dX3_plan_85 rfl ?_
        refine V_getI (pc := 86) C dX3_plan_86 lf_X3_43 fk_39_1 ?_
        refine V_iload_n (pc := 89) C dX3_plan_89 rfl ?_
        refine V_iload_n (pc := 90) C dX3_plan_90 rfl ?_
        obtain ⟨r5, h6, eh6, hyp⟩ := bI_n hyp
        refine V_callI (pc := 91) C dX3_plan_91 lm_X3_89 mk_X3_tells ok_39 rfl (MG_X3_tells _ ak_42 eh6) rfl pd_X3_tells (by decide) (by decide) (by decide) (As := [.ref 42, .int (0 : Int32), .int (h2.1 39 1), .int x1, .int x2]) (rest := []) rfl (Nat.le_of_ble_eq_true rfl) ?_
        refine V_if_eq (pc := 94) C dX3_plan_94 (tgt := 107) (by decide) (fun q7 => ?_) (fun q7 => ?_)
        · replace hyp := (if_pos q7).symm.trans hyp
          refine V_weak (lv' := [some (.ref 39), some (.int x1), some (.int x2)]) (lvle_s (lvle_s (lvle_s lvle_0))) ?_
          exact (T_X3_plan_b107 C hr45 ih) x1 x2 h6 hyp
        · replace hyp := (if_neg q7).symm.trans hyp
          refine V_aload_n (pc := 97) C dX3_plan_97 rfl ?_
          refine V_iload_n (pc := 98) C dX3_plan_98 rfl ?_
          obtain ⟨h8, eh8, hyp⟩ := hb_n hyp
          refine V_putI (pc := 99) C dX3_plan_99 lf_X3_80 fk_39_2 rfl rfl eh8 ?_
          refine V_aload_n (pc := 102) C dX3_plan_102 rfl ?_
          refine V_iload_n (pc := 103) C dX3_plan_103 rfl ?_
          obtain ⟨h9, eh9, hyp⟩ := hb_n hyp
          refine V_putI (pc := 104) C dX3_plan_104 lf_X3_83 fk_39_3 rfl rfl eh9 ?_
          refine V_weak (lv' := [some (.ref 39), some (.int x1), some (.int x2)]) (lvle_s (lvle_s (lvle_s lvle_0))) ?_
          exact (T_X3_plan_b107 C hr45 ih) x1 x2 h9 hyp
def F_X3_plan_b45 (N : Nat) : Nat → Int32 → PH → Option PH
  | 0, _, _ => none
  | n + 1, x1, h =>
    if (3 : Int32) < x1 then
      some h
    else
      if (h.1 39 2) = (-1 : Int32) then
        F_X3_plan_b60 N (F_X3_plan_b45 N n) N x1 (0 : Int32) h
      else
        some h
set_option maxRecDepth 20000 in
set_option maxHeartbeats 4000000 in
theorem T_X3_plan_b45 {X : CT} (C : CX X 103 cX3_plan 3 RX3 none 33 902) {h0 : PH} {N : Nat} : ∀ (n : Nat) (x1 : Int32) (h : PH), F_X3_plan_b45 N n x1 h = some h0 → V X (QV X h0) h 45 [some (.ref 39), some (.int x1), none] [] := by
  intro n
  induction n with
  | zero =>
    intro x1 h hyp
    cases hyp
  | succ n ih =>
    intro x1 h hyp
    unfold F_X3_plan_b45 at hyp
    refine V_iload_n (pc := 45) C dX3_plan_45 rfl ?_
    refine V_iconst (pc := 46) C dX3_plan_46 (v := 3) (by decide) ?_
    refine V_icmp_gt (pc := 47) C dX3_plan_47 (tgt := 119) (by decide) (fun q1 => ?_) (fun q1 => ?_)
    · replace hyp := (if_pos q1).symm.trans hyp
      cases hyp
      exact V_vret C dX3_plan_119
    · replace hyp := (if_neg q1).symm.trans hyp
      refine V_aload_n (pc := 50) C dX3_plan_50 rfl ?_
      refine V_getI (pc := 51) C dX3_plan_51 lf_X3_80 fk_39_2 ?_
      refine V_iconst (pc := 54) C dX3_plan_54 (v := -1) (by decide) ?_
      refine V_icmp_ne (pc := 55) C dX3_plan_55 (tgt := 119) (by decide) (fun q2 => ?_) (fun q2 => ?_)
      · replace hyp := (if_neg q2).symm.trans hyp
        cases hyp
        exact V_vret C dX3_plan_119
      · replace hyp := (if_pos q2).symm.trans hyp
        refine V_iconst (pc := 58) C dX3_plan_58 (v := 0) (by decide) ?_
        refine V_istore_n (pc := 59) C dX3_plan_59 (by decide) rfl ?_
        refine V_weak (lv' := [some (.ref 39), some (.int x1), some (.int (0 : Int32))]) (lvle_s (lvle_s (lvle_s lvle_0))) ?_
        exact (T_X3_plan_b60 C ih) N x1 (0 : Int32) h hyp
def F_X3_plan_b35 (N : Nat) (s0 : Int32) (h : PH) : Option PH :=
  hb (hs h 39 2 s0) fun h1 =>
  hb (hs h1 39 3 (-1 : Int32)) fun h2 =>
  F_X3_plan_b45 N N (1 : Int32) h2
set_option maxRecDepth 20000 in
set_option maxHeartbeats 4000000 in
theorem T_X3_plan_b35 {X : CT} (C : CX X 103 cX3_plan 3 RX3 none 33 902) {h0 : PH} {N : Nat} : ∀ (s0 : Int32) (h : PH), F_X3_plan_b35 N s0 h = some h0 → V X (QV X h0) h 35 [some (.ref 39), none, none] [.int s0, .ref 39] := by
  intro s0 h hyp
  unfold F_X3_plan_b35 at hyp
  obtain ⟨h1, eh1, hyp⟩ := hb_n hyp
  refine V_putI (pc := 35) C dX3_plan_35 lf_X3_80 fk_39_2 rfl rfl eh1 ?_
  refine V_aload_n (pc := 38) C dX3_plan_38 rfl ?_
  refine V_iconst (pc := 39) C dX3_plan_39 (v := -1) (by decide) ?_
  obtain ⟨h2, eh2, hyp⟩ := hb_n hyp
  refine V_putI (pc := 40) C dX3_plan_40 lf_X3_83 fk_39_3 rfl rfl eh2 ?_
  refine V_iconst (pc := 43) C dX3_plan_43 (v := 1) (by decide) ?_
  refine V_istore_n (pc := 44) C dX3_plan_44 (by decide) rfl ?_
  refine V_weak (lv' := [some (.ref 39), some (.int (1 : Int32)), none]) (lvle_s (lvle_s (lvle_n lvle_0))) ?_
  exact (T_X3_plan_b45 C) N (1 : Int32) h2 hyp
def F_X3_plan (N : Nat) (h : PH) : Option PH :=
  if (h.1 39 12) = 0 then
    hb (hs h 39 12 (1 : Int32)) fun h2 =>
    bI (F_X3_oneFloor N 42 (0 : Int32) (h2.1 39 1) h2) fun r3 h4 =>
    if r3 = 0 then
      F_X3_plan_b35 N (-1 : Int32) h4
    else
      F_X3_plan_b35 N (0 : Int32) h4
  else
    some h
set_option maxRecDepth 20000 in
set_option maxHeartbeats 4000000 in
theorem M_X3_plan (E : EV) {N : Nat} {h h2 : PH} (hyp : F_X3_plan N  h = some h2) : MV E 103 yX3_plan cX3_plan 3 none 33 902 [.ref 39] h h2 := by
  refine MV.of 2 (by decide) rfl (fun X e1 C => ?_)
  subst e1
  replace C : CX X 103 cX3_plan 3 RX3 none 33 902 := C
  show V X _ h 0 [some (.ref 39), none, none] []
  unfold F_X3_plan at hyp
  refine V_aload_n (pc := 0) C dX3_plan_0 rfl ?_
  refine V_getI (pc := 1) C dX3_plan_1 lf_X3_47 fk_39_12 ?_
  refine V_if_eq (pc := 4) C dX3_plan_4 (tgt := 8) (by decide) (fun q1 => ?_) (fun q1 => ?_)
  · replace hyp := (if_pos q1).symm.trans hyp
    refine V_aload_n (pc := 8) C dX3_plan_8 rfl ?_
    refine V_iconst (pc := 9) C dX3_plan_9 (v := 1) (by decide) ?_
    obtain ⟨h2, eh2, hyp⟩ := hb_n hyp
    refine V_putI (pc := 10) C dX3_plan_10 lf_X3_47 fk_39_12 rfl rfl eh2 ?_
    refine V_aload_n (pc := 13) C dX3_plan_13 rfl ?_
    refine V_aload_n (pc := 14) C dX3_plan_14 rfl ?_
    refine V_aload_n (pc := 15) C dX3_plan_15 rfl ?_
    refine V_getR (pc := 16) C dX3_plan_16 lf_X3_18 fk_39_7 ?_
    refine V_iconst (pc := 19) C dX3_plan_19 (v := 0) (by decide) ?_
    refine V_aload_n (pc := 20) C dX3_plan_20 rfl ?_
    refine V_getI (pc := 21) C dX3_plan_21 lf_X3_43 fk_39_1 ?_
    obtain ⟨r3, h4, eh4, hyp⟩ := bI_n hyp
    refine V_callI (pc := 24) C dX3_plan_24 lm_X3_76 mk_X3_oneFloor ok_39 rfl (M_X3_oneFloor _ ak_42 eh4) rfl pd_X3_oneFloor (by decide) (by decide) (by decide) (As := [.ref 42, .int (0 : Int32), .int (h2.1 39 1)]) (rest := [.ref 39]) rfl (Nat.le_of_ble_eq_true rfl) ?_
    refine V_if_eq (pc := 27) C dX3_plan_27 (tgt := 34) (by decide) (fun q5 => ?_) (fun q5 => ?_)
    · replace hyp := (if_pos q5).symm.trans hyp
      refine V_iconst (pc := 34) C dX3_plan_34 (v := -1) (by decide) ?_
      refine V_weak (lv' := [some (.ref 39), none, none]) (lvle_s (lvle_n (lvle_n lvle_0))) ?_
      exact (T_X3_plan_b35 C) (-1 : Int32) h4 hyp
    · replace hyp := (if_neg q5).symm.trans hyp
      refine V_iconst (pc := 30) C dX3_plan_30 (v := 0) (by decide) ?_
      refine V_goto (pc := 31) C dX3_plan_31 (tgt := 35) (by decide) ?_
      refine V_weak (lv' := [some (.ref 39), none, none]) (lvle_s (lvle_n (lvle_n lvle_0))) ?_
      exact (T_X3_plan_b35 C) (0 : Int32) h4 hyp
  · replace hyp := (if_neg q1).symm.trans hyp
    cases hyp
    exact V_vret C dX3_plan_7
